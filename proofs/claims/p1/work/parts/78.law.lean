theorem dL_law_232 : decode cL_law 232 = .ok (.aload_n 1, 1) := by decide +kernel
theorem dL_law_233 : decode cL_law 233 = .ok (.aload_n 0, 1) := by decide +kernel
theorem dL_law_234 : decode cL_law 234 = .ok (.iload 5, 2) := by decide +kernel
theorem dL_law_236 : decode cL_law 236 = .ok (.iconst 1, 1) := by decide +kernel
theorem dL_law_237 : decode cL_law 237 = .ok (.iadd, 1) := by decide +kernel
theorem dL_law_238 : decode cL_law 238 = .ok (.iaload, 1) := by decide +kernel
theorem dL_law_239 : decode cL_law 239 = .ok (.i2c, 1) := by decide +kernel
theorem dL_law_240 : decode cL_law 240 = .ok (.aload_n 0, 1) := by decide +kernel
theorem dL_law_241 : decode cL_law 241 = .ok (.iload 5, 2) := by decide +kernel
theorem dL_law_243 : decode cL_law 243 = .ok (.iconst 2, 1) := by decide +kernel
theorem dL_law_244 : decode cL_law 244 = .ok (.iadd, 1) := by decide +kernel
theorem dL_law_245 : decode cL_law 245 = .ok (.iaload, 1) := by decide +kernel
theorem dL_law_246 : decode cL_law 246 = .ok (.aload_n 0, 1) := by decide +kernel
theorem dL_law_247 : decode cL_law 247 = .ok (.iload 5, 2) := by decide +kernel
theorem dL_law_249 : decode cL_law 249 = .ok (.iconst 3, 1) := by decide +kernel
theorem dL_law_250 : decode cL_law 250 = .ok (.iadd, 1) := by decide +kernel
theorem dL_law_251 : decode cL_law 251 = .ok (.iaload, 1) := by decide +kernel
theorem dL_law_252 : decode cL_law 252 = .ok (.aload_n 3, 1) := by decide +kernel
set_option maxRecDepth 20000 in
theorem ggL_law_L_machine : GoodIn wsL_law wsL_machine := goodIn_ca (goodIn_ca (goodIn_ca (goodIn_r _ [207, 208, 209, 210, 211, 212, 2, 213, 15, 119, 120, 214, 215, 216, 217, 218, 219, 220, 221, 222, 223, 224, 225, 226, 227, 17, 228, 131, 132, 133, 13, 14, 134, 42, 43, 135, 136, 137, 138, 139, 140, 71, 141, 142, 143, 144, 145, 62, 63, 64, 65, 66, 67, 68, 69, 70, 72, 229, 230, 231, 232, 16, 1944, 1945, 1946, 1947, 1948, 1949, 1950, 1951, 1952, 1953, 1954, 1847, 1848, 1849, 1850, 1851, 1852, 1853, 1908, 1909, 1910, 1911, 1912, 1913, 1914] (by decide +kernel) (by decide +kernel)) (goodIn_sub (fun _ h => List.mem_append_left _ (List.mem_append_left _ (List.mem_append_left _ (List.mem_append_left _ (List.mem_append_left _ (List.mem_append_left _ (List.mem_append_left _ (List.mem_append_right _ h)))))))) (by decide +kernel))) (goodIn_sub (fun _ h => List.mem_append_left _ (List.mem_append_left _ (List.mem_append_left _ (List.mem_append_left _ (List.mem_append_left _ (List.mem_append_left _ (List.mem_append_right _ h))))))) (by decide +kernel))) (goodIn_sub (fun _ h => List.mem_append_left _ (List.mem_append_left _ (List.mem_append_left _ (List.mem_append_left _ (List.mem_append_left _ (List.mem_append_right _ h)))))) (by decide +kernel))
set_option maxRecDepth 20000 in
theorem gL_law_L_machine : GoodIn wsL_law (va_wsS RL 146 yL_machine wsL_machine) := goodIn_app (goodIn_of _ (by decide +kernel)) ggL_law_L_machine
theorem dL_law_253 : decode cL_law 253 = .ok (.invokestatic 146, 3) := by decide +kernel
theorem dL_law_256 : decode cL_law 256 = .ok (.istore 6, 2) := by decide +kernel
theorem dL_law_258 : decode cL_law 258 = .ok (.aload_n 2, 1) := by decide +kernel
theorem dL_law_259 : decode cL_law 259 = .ok (.aload_n 0, 1) := by decide +kernel
theorem dL_law_260 : decode cL_law 260 = .ok (.iload 5, 2) := by decide +kernel
theorem dL_law_262 : decode cL_law 262 = .ok (.iconst 1, 1) := by decide +kernel
theorem dL_law_263 : decode cL_law 263 = .ok (.iadd, 1) := by decide +kernel
theorem dL_law_264 : decode cL_law 264 = .ok (.iaload, 1) := by decide +kernel
theorem dL_law_265 : decode cL_law 265 = .ok (.i2c, 1) := by decide +kernel
theorem dL_law_266 : decode cL_law 266 = .ok (.aload_n 0, 1) := by decide +kernel
theorem dL_law_267 : decode cL_law 267 = .ok (.iload 5, 2) := by decide +kernel
theorem dL_law_269 : decode cL_law 269 = .ok (.iconst 2, 1) := by decide +kernel
theorem dL_law_270 : decode cL_law 270 = .ok (.iadd, 1) := by decide +kernel
theorem dL_law_271 : decode cL_law 271 = .ok (.iaload, 1) := by decide +kernel
theorem dL_law_272 : decode cL_law 272 = .ok (.aload_n 0, 1) := by decide +kernel
theorem dL_law_273 : decode cL_law 273 = .ok (.iload 5, 2) := by decide +kernel
theorem dL_law_275 : decode cL_law 275 = .ok (.iconst 3, 1) := by decide +kernel
theorem dL_law_276 : decode cL_law 276 = .ok (.iadd, 1) := by decide +kernel
theorem dL_law_277 : decode cL_law 277 = .ok (.iaload, 1) := by decide +kernel
set_option maxRecDepth 20000 in
theorem ggL_law_X15_machine : GoodIn wsL_law wsX15_machine := goodIn_ca (goodIn_r _ [236, 237, 238, 239, 181, 240, 241, 242, 243, 244, 245, 5, 246, 247, 248, 249, 180, 250, 251, 252, 253, 254, 255, 13, 14, 256, 257, 258, 259, 260, 261, 71, 262, 263, 264, 265, 266, 267, 268, 269, 270, 193, 271, 272, 273, 274, 275, 276, 277, 278, 279, 280, 281, 282, 192, 283, 284, 285, 286, 287, 288, 289, 290, 291, 292, 293, 294, 295, 296, 297, 298, 299, 300, 301, 302, 303, 304, 305, 306, 307, 308, 309, 310, 311, 312, 313, 314, 315, 316, 1854, 1855, 1856, 1857, 1858, 1859, 1860, 1861, 1862, 1863, 1864, 1865, 1866, 1867, 1868, 1869, 1870, 1871, 1872, 1873, 1874, 1958, 1959, 1960, 1961, 1962, 1963, 1964, 1965, 1966, 1967, 1968, 1969, 1955, 1956, 1957] (by decide +kernel) (by decide +kernel)) (goodIn_sub (fun _ h => List.mem_append_left _ (List.mem_append_left _ (List.mem_append_left _ (List.mem_append_left _ (List.mem_append_left _ (List.mem_append_left _ (List.mem_append_left _ (List.mem_append_right _ h)))))))) (by decide +kernel))
set_option maxRecDepth 20000 in
theorem gL_law_X15_machine : GoodIn wsL_law (wsV RL 151 RX15 yX15_machine wsX15_machine) := goodIn_app (goodIn_of _ (by decide +kernel)) ggL_law_X15_machine
theorem dL_law_278 : decode cL_law 278 = .ok (.invokevirtual 151, 3) := by decide +kernel
theorem dL_law_281 : decode cL_law 281 = .ok (.istore 7, 2) := by decide +kernel
theorem dL_law_283 : decode cL_law 283 = .ok (.aload_n 2, 1) := by decide +kernel
set_option maxRecDepth 20000 in
theorem ggL_law_X15_thrown : GoodIn wsL_law wsX15_thrown := goodIn_r _ [320, 240, 1854, 1855, 1856, 1857, 1858, 1859, 1860, 1861, 1862, 1863, 1864, 1865, 1866, 1867, 1868, 1869, 1870, 1871, 1872, 1873, 1874] (by decide +kernel) (by decide +kernel)
set_option maxRecDepth 20000 in
theorem gL_law_X15_thrown : GoodIn wsL_law (wsV RL 152 RX15 yX15_thrown wsX15_thrown) := goodIn_app (goodIn_of _ (by decide +kernel)) ggL_law_X15_thrown
theorem dL_law_284 : decode cL_law 284 = .ok (.invokevirtual 152, 3) := by decide +kernel
theorem dL_law_287 : decode cL_law 287 = .ok (.iload 6, 2) := by decide +kernel
theorem dL_law_289 : decode cL_law 289 = .ok (.if_icmp .eq 5, 3) := by decide +kernel
theorem dL_law_294 : decode cL_law 294 = .ok (.iload 6, 2) := by decide +kernel
theorem dL_law_296 : decode cL_law 296 = .ok (.ifCond .ne 15, 3) := by decide +kernel
theorem dL_law_299 : decode cL_law 299 = .ok (.aload_n 3, 1) := by decide +kernel
theorem dL_law_300 : decode cL_law 300 = .ok (.iconst 0, 1) := by decide +kernel
theorem dL_law_301 : decode cL_law 301 = .ok (.laload, 1) := by decide +kernel
theorem dL_law_302 : decode cL_law 302 = .ok (.iload 7, 2) := by decide +kernel
theorem dL_law_304 : decode cL_law 304 = .ok (.i2l, 1) := by decide +kernel
theorem dL_law_305 : decode cL_law 305 = .ok (.lcmp, 1) := by decide +kernel
theorem dL_law_306 : decode cL_law 306 = .ok (.ifCond .eq 5, 3) := by decide +kernel
theorem dL_law_311 : decode cL_law 311 = .ok (.goto 2467, 3) := by decide +kernel
theorem dL_law_314 : decode cL_law 314 = .ok (.aload_n 1, 1) := by decide +kernel
theorem dL_law_315 : decode cL_law 315 = .ok (.aload_n 0, 1) := by decide +kernel
theorem dL_law_316 : decode cL_law 316 = .ok (.iload 5, 2) := by decide +kernel
theorem dL_law_318 : decode cL_law 318 = .ok (.iconst 1, 1) := by decide +kernel
theorem dL_law_319 : decode cL_law 319 = .ok (.iadd, 1) := by decide +kernel
theorem dL_law_320 : decode cL_law 320 = .ok (.iaload, 1) := by decide +kernel
theorem dL_law_321 : decode cL_law 321 = .ok (.aload_n 0, 1) := by decide +kernel
theorem dL_law_322 : decode cL_law 322 = .ok (.iload 5, 2) := by decide +kernel
theorem dL_law_324 : decode cL_law 324 = .ok (.iconst 2, 1) := by decide +kernel
theorem dL_law_325 : decode cL_law 325 = .ok (.iadd, 1) := by decide +kernel
theorem dL_law_326 : decode cL_law 326 = .ok (.iaload, 1) := by decide +kernel
theorem dL_law_327 : decode cL_law 327 = .ok (.aload_n 0, 1) := by decide +kernel
theorem dL_law_328 : decode cL_law 328 = .ok (.iload 5, 2) := by decide +kernel
theorem dL_law_330 : decode cL_law 330 = .ok (.iconst 3, 1) := by decide +kernel
theorem dL_law_331 : decode cL_law 331 = .ok (.iadd, 1) := by decide +kernel
theorem dL_law_332 : decode cL_law 332 = .ok (.iaload, 1) := by decide +kernel
theorem dL_law_333 : decode cL_law 333 = .ok (.aload_n 0, 1) := by decide +kernel
theorem dL_law_334 : decode cL_law 334 = .ok (.iload 5, 2) := by decide +kernel
theorem dL_law_336 : decode cL_law 336 = .ok (.iconst 4, 1) := by decide +kernel
theorem dL_law_337 : decode cL_law 337 = .ok (.iadd, 1) := by decide +kernel
theorem dL_law_338 : decode cL_law 338 = .ok (.iaload, 1) := by decide +kernel
theorem dL_law_339 : decode cL_law 339 = .ok (.aload_n 0, 1) := by decide +kernel
theorem dL_law_340 : decode cL_law 340 = .ok (.iload 5, 2) := by decide +kernel
theorem dL_law_342 : decode cL_law 342 = .ok (.iconst 5, 1) := by decide +kernel
theorem dL_law_343 : decode cL_law 343 = .ok (.iadd, 1) := by decide +kernel
theorem dL_law_344 : decode cL_law 344 = .ok (.iaload, 1) := by decide +kernel
theorem dL_law_345 : decode cL_law 345 = .ok (.i2c, 1) := by decide +kernel
theorem dL_law_346 : decode cL_law 346 = .ok (.aload_n 0, 1) := by decide +kernel
theorem dL_law_347 : decode cL_law 347 = .ok (.iload 5, 2) := by decide +kernel
theorem dL_law_349 : decode cL_law 349 = .ok (.bipush 6, 2) := by decide +kernel
theorem dL_law_351 : decode cL_law 351 = .ok (.iadd, 1) := by decide +kernel
theorem dL_law_352 : decode cL_law 352 = .ok (.iaload, 1) := by decide +kernel
theorem dL_law_353 : decode cL_law 353 = .ok (.aload_n 3, 1) := by decide +kernel
set_option maxRecDepth 20000 in
theorem ggL_law_L_order : GoodIn wsL_law wsL_order := goodIn_ca (goodIn_ca (goodIn_ca (goodIn_r _ [323, 324, 208, 325, 326, 327, 2, 328, 329, 330, 331, 332, 333, 334, 335, 17, 16, 336, 337, 338, 120, 339, 144, 145, 214, 215, 216, 217, 218, 340, 341, 342, 343, 344, 345, 346, 137, 141, 347, 348, 349, 350, 351, 352, 353, 354, 355, 356, 357, 138, 136, 1944, 1945, 1946, 1947, 1948, 1949, 1950, 1951, 1952, 1953, 1954, 1847, 1848, 1849, 1850, 1851, 1852, 1853] (by decide +kernel) (by decide +kernel)) (goodIn_sub (fun _ h => List.mem_append_left _ (List.mem_append_left _ (List.mem_append_left _ (List.mem_append_left _ (List.mem_append_left _ (List.mem_append_left _ (List.mem_append_left _ (List.mem_append_right _ h)))))))) (by decide +kernel))) (goodIn_sub (fun _ h => List.mem_append_left _ (List.mem_append_left _ (List.mem_append_left _ (List.mem_append_left _ (List.mem_append_right _ h))))) (by decide +kernel))) (goodIn_sub (fun _ h => List.mem_append_left _ (List.mem_append_left _ (List.mem_append_left _ (List.mem_append_left _ (List.mem_append_left _ (List.mem_append_left _ (List.mem_append_right _ h))))))) (by decide +kernel))
set_option maxRecDepth 20000 in
theorem gL_law_L_order : GoodIn wsL_law (va_wsS RL 156 yL_order wsL_order) := goodIn_app (goodIn_of _ (by decide +kernel)) ggL_law_L_order
theorem dL_law_354 : decode cL_law 354 = .ok (.invokestatic 156, 3) := by decide +kernel
theorem dL_law_357 : decode cL_law 357 = .ok (.istore 6, 2) := by decide +kernel
theorem dL_law_359 : decode cL_law 359 = .ok (.aload_n 2, 1) := by decide +kernel
theorem dL_law_360 : decode cL_law 360 = .ok (.aload_n 0, 1) := by decide +kernel
theorem dL_law_361 : decode cL_law 361 = .ok (.iload 5, 2) := by decide +kernel
theorem dL_law_363 : decode cL_law 363 = .ok (.iconst 1, 1) := by decide +kernel
theorem dL_law_364 : decode cL_law 364 = .ok (.iadd, 1) := by decide +kernel
theorem dL_law_365 : decode cL_law 365 = .ok (.iaload, 1) := by decide +kernel
theorem dL_law_366 : decode cL_law 366 = .ok (.aload_n 0, 1) := by decide +kernel
theorem dL_law_367 : decode cL_law 367 = .ok (.iload 5, 2) := by decide +kernel
theorem dL_law_369 : decode cL_law 369 = .ok (.iconst 2, 1) := by decide +kernel
theorem dL_law_370 : decode cL_law 370 = .ok (.iadd, 1) := by decide +kernel
theorem dL_law_371 : decode cL_law 371 = .ok (.iaload, 1) := by decide +kernel
theorem dL_law_372 : decode cL_law 372 = .ok (.aload_n 0, 1) := by decide +kernel
theorem dL_law_373 : decode cL_law 373 = .ok (.iload 5, 2) := by decide +kernel
theorem dL_law_375 : decode cL_law 375 = .ok (.iconst 3, 1) := by decide +kernel
theorem dL_law_376 : decode cL_law 376 = .ok (.iadd, 1) := by decide +kernel
theorem dL_law_377 : decode cL_law 377 = .ok (.iaload, 1) := by decide +kernel
theorem dL_law_378 : decode cL_law 378 = .ok (.aload_n 0, 1) := by decide +kernel
theorem dL_law_379 : decode cL_law 379 = .ok (.iload 5, 2) := by decide +kernel
theorem dL_law_381 : decode cL_law 381 = .ok (.iconst 4, 1) := by decide +kernel
theorem dL_law_382 : decode cL_law 382 = .ok (.iadd, 1) := by decide +kernel
theorem dL_law_383 : decode cL_law 383 = .ok (.iaload, 1) := by decide +kernel
theorem dL_law_384 : decode cL_law 384 = .ok (.aload_n 0, 1) := by decide +kernel
theorem dL_law_385 : decode cL_law 385 = .ok (.iload 5, 2) := by decide +kernel
theorem dL_law_387 : decode cL_law 387 = .ok (.iconst 5, 1) := by decide +kernel
theorem dL_law_388 : decode cL_law 388 = .ok (.iadd, 1) := by decide +kernel
theorem dL_law_389 : decode cL_law 389 = .ok (.iaload, 1) := by decide +kernel
theorem dL_law_390 : decode cL_law 390 = .ok (.i2c, 1) := by decide +kernel
theorem dL_law_391 : decode cL_law 391 = .ok (.aload_n 0, 1) := by decide +kernel
theorem dL_law_392 : decode cL_law 392 = .ok (.iload 5, 2) := by decide +kernel
theorem dL_law_394 : decode cL_law 394 = .ok (.bipush 6, 2) := by decide +kernel
theorem dL_law_396 : decode cL_law 396 = .ok (.iadd, 1) := by decide +kernel
theorem dL_law_397 : decode cL_law 397 = .ok (.iaload, 1) := by decide +kernel
set_option maxRecDepth 20000 in
theorem ggL_law_X15_order : GoodIn wsL_law wsX15_order := goodIn_ca (goodIn_r _ [361, 181, 362, 363, 364, 365, 5, 366, 240, 247, 248, 249, 180, 250, 251, 244, 245, 246, 367, 368, 369, 370, 371, 372, 373, 374, 375, 376, 377, 378, 379, 380, 381, 382, 193, 383, 384, 385, 386, 387, 388, 389, 243, 390, 261, 391, 392, 393, 394, 395, 262, 263, 264, 396, 397, 398, 399, 400, 256, 1854, 1855, 1856, 1857, 1858, 1859, 1860, 1861, 1862, 1863, 1864, 1865, 1866, 1867, 1868, 1869, 1870, 1871, 1872, 1873, 1874, 1958, 1959, 1960, 1961, 1962, 1963, 1964, 1965, 1966, 1967, 1968, 1969, 1955, 1956, 1957] (by decide +kernel) (by decide +kernel)) (goodIn_sub (fun _ h => List.mem_append_left _ (List.mem_append_left _ (List.mem_append_left _ (List.mem_append_left _ (List.mem_append_left _ (List.mem_append_left _ (List.mem_append_left _ (List.mem_append_right _ h)))))))) (by decide +kernel))
set_option maxRecDepth 20000 in
theorem gL_law_X15_order : GoodIn wsL_law (wsV RL 159 RX15 yX15_order wsX15_order) := goodIn_app (goodIn_of _ (by decide +kernel)) ggL_law_X15_order
theorem dL_law_398 : decode cL_law 398 = .ok (.invokevirtual 159, 3) := by decide +kernel
theorem dL_law_401 : decode cL_law 401 = .ok (.istore 7, 2) := by decide +kernel
theorem dL_law_403 : decode cL_law 403 = .ok (.aload_n 2, 1) := by decide +kernel
theorem dL_law_404 : decode cL_law 404 = .ok (.invokevirtual 152, 3) := by decide +kernel
theorem dL_law_407 : decode cL_law 407 = .ok (.iload 6, 2) := by decide +kernel
theorem dL_law_409 : decode cL_law 409 = .ok (.if_icmp .eq 5, 3) := by decide +kernel
theorem dL_law_414 : decode cL_law 414 = .ok (.iload 6, 2) := by decide +kernel
theorem dL_law_416 : decode cL_law 416 = .ok (.ifCond .ne 15, 3) := by decide +kernel
theorem dL_law_431 : decode cL_law 431 = .ok (.goto 2347, 3) := by decide +kernel
theorem dL_law_434 : decode cL_law 434 = .ok (.aload_n 1, 1) := by decide +kernel
theorem dL_law_435 : decode cL_law 435 = .ok (.aload_n 0, 1) := by decide +kernel
theorem dL_law_436 : decode cL_law 436 = .ok (.iload 5, 2) := by decide +kernel
theorem dL_law_438 : decode cL_law 438 = .ok (.iconst 1, 1) := by decide +kernel
theorem dL_law_439 : decode cL_law 439 = .ok (.iadd, 1) := by decide +kernel
theorem dL_law_440 : decode cL_law 440 = .ok (.iaload, 1) := by decide +kernel
theorem dL_law_441 : decode cL_law 441 = .ok (.aload_n 0, 1) := by decide +kernel
theorem dL_law_442 : decode cL_law 442 = .ok (.iload 5, 2) := by decide +kernel
theorem dL_law_444 : decode cL_law 444 = .ok (.iconst 2, 1) := by decide +kernel
theorem dL_law_445 : decode cL_law 445 = .ok (.iadd, 1) := by decide +kernel
theorem dL_law_446 : decode cL_law 446 = .ok (.iaload, 1) := by decide +kernel
theorem dL_law_447 : decode cL_law 447 = .ok (.aload_n 0, 1) := by decide +kernel
theorem dL_law_448 : decode cL_law 448 = .ok (.iload 5, 2) := by decide +kernel
theorem dL_law_450 : decode cL_law 450 = .ok (.iconst 3, 1) := by decide +kernel
theorem dL_law_451 : decode cL_law 451 = .ok (.iadd, 1) := by decide +kernel
theorem dL_law_452 : decode cL_law 452 = .ok (.iaload, 1) := by decide +kernel
theorem dL_law_453 : decode cL_law 453 = .ok (.aload_n 3, 1) := by decide +kernel
set_option maxRecDepth 20000 in
theorem ggL_law_L_untell : GoodIn wsL_law wsL_untell := goodIn_ca (goodIn_ca (goodIn_ca (goodIn_ca (goodIn_r _ [403, 324, 208, 404, 405, 406, 407, 2, 408, 329, 330, 331, 332, 333, 334, 335, 17, 16, 336, 337, 338, 120, 339, 144, 145, 214, 215, 216, 217, 218, 409, 349, 350, 351, 141, 410, 411, 412, 413, 414, 343, 344, 345, 346, 137, 347, 348, 352, 353, 354, 355, 356, 357, 138, 136, 1944, 1945, 1946, 1947, 1948, 1949, 1950, 1951, 1952, 1953, 1954, 1847, 1848, 1849, 1850, 1851, 1852, 1853] (by decide +kernel) (by decide +kernel)) (goodIn_sub (fun _ h => List.mem_append_left _ (List.mem_append_left _ (List.mem_append_left _ (List.mem_append_left _ (List.mem_append_left _ (List.mem_append_left _ (List.mem_append_left _ (List.mem_append_right _ h)))))))) (by decide +kernel))) (goodIn_sub (fun _ h => List.mem_append_left _ (List.mem_append_left _ (List.mem_append_left _ (List.mem_append_left _ (List.mem_append_right _ h))))) (by decide +kernel))) (goodIn_sub (fun _ h => List.mem_append_left _ (List.mem_append_left _ (List.mem_append_left _ (List.mem_append_left _ (List.mem_append_left _ (List.mem_append_left _ (List.mem_append_right _ h))))))) (by decide +kernel))) (goodIn_sub (fun _ h => List.mem_append_left _ (List.mem_append_left _ (List.mem_append_left _ (List.mem_append_right _ h)))) (by decide +kernel))
set_option maxRecDepth 20000 in
theorem gL_law_L_untell : GoodIn wsL_law (va_wsS RL 160 yL_untell wsL_untell) := goodIn_app (goodIn_of _ (by decide +kernel)) ggL_law_L_untell
theorem dL_law_454 : decode cL_law 454 = .ok (.invokestatic 160, 3) := by decide +kernel
theorem dL_law_457 : decode cL_law 457 = .ok (.istore 6, 2) := by decide +kernel
theorem dL_law_459 : decode cL_law 459 = .ok (.aload_n 2, 1) := by decide +kernel
theorem dL_law_460 : decode cL_law 460 = .ok (.aload_n 0, 1) := by decide +kernel
theorem dL_law_461 : decode cL_law 461 = .ok (.iload 5, 2) := by decide +kernel
theorem dL_law_463 : decode cL_law 463 = .ok (.iconst 1, 1) := by decide +kernel
theorem dL_law_464 : decode cL_law 464 = .ok (.iadd, 1) := by decide +kernel
theorem dL_law_465 : decode cL_law 465 = .ok (.iaload, 1) := by decide +kernel
theorem dL_law_466 : decode cL_law 466 = .ok (.aload_n 0, 1) := by decide +kernel
theorem dL_law_467 : decode cL_law 467 = .ok (.iload 5, 2) := by decide +kernel
theorem dL_law_469 : decode cL_law 469 = .ok (.iconst 2, 1) := by decide +kernel
theorem dL_law_470 : decode cL_law 470 = .ok (.iadd, 1) := by decide +kernel
theorem dL_law_471 : decode cL_law 471 = .ok (.iaload, 1) := by decide +kernel
theorem dL_law_472 : decode cL_law 472 = .ok (.aload_n 0, 1) := by decide +kernel
theorem dL_law_473 : decode cL_law 473 = .ok (.iload 5, 2) := by decide +kernel
theorem dL_law_475 : decode cL_law 475 = .ok (.iconst 3, 1) := by decide +kernel
theorem dL_law_476 : decode cL_law 476 = .ok (.iadd, 1) := by decide +kernel
theorem dL_law_477 : decode cL_law 477 = .ok (.iaload, 1) := by decide +kernel
set_option maxRecDepth 20000 in
theorem ggL_law_X15_untell : GoodIn wsL_law wsX15_untell := goodIn_ca (goodIn_r _ [418, 181, 362, 240, 363, 364, 365, 5, 366, 247, 248, 249, 180, 250, 251, 244, 245, 246, 367, 368, 369, 370, 371, 372, 373, 374, 375, 376, 377, 378, 379, 380, 381, 382, 193, 387, 388, 389, 243, 390, 261, 419, 420, 421, 422, 262, 395, 396, 397, 398, 399, 400, 256, 1854, 1855, 1856, 1857, 1858, 1859, 1860, 1861, 1862, 1863, 1864, 1865, 1866, 1867, 1868, 1869, 1870, 1871, 1872, 1873, 1874, 1958, 1959, 1960, 1961, 1962, 1963, 1964, 1965, 1966, 1967, 1968, 1969, 1955, 1956, 1957] (by decide +kernel) (by decide +kernel)) (goodIn_sub (fun _ h => List.mem_append_left _ (List.mem_append_left _ (List.mem_append_left _ (List.mem_append_left _ (List.mem_append_left _ (List.mem_append_left _ (List.mem_append_left _ (List.mem_append_right _ h)))))))) (by decide +kernel))
set_option maxRecDepth 20000 in
theorem gL_law_X15_untell : GoodIn wsL_law (wsV RL 163 RX15 yX15_untell wsX15_untell) := goodIn_app (goodIn_of _ (by decide +kernel)) ggL_law_X15_untell
theorem dL_law_478 : decode cL_law 478 = .ok (.invokevirtual 163, 3) := by decide +kernel
theorem dL_law_481 : decode cL_law 481 = .ok (.istore 7, 2) := by decide +kernel
theorem dL_law_483 : decode cL_law 483 = .ok (.aload_n 2, 1) := by decide +kernel
theorem dL_law_484 : decode cL_law 484 = .ok (.invokevirtual 152, 3) := by decide +kernel
theorem dL_law_487 : decode cL_law 487 = .ok (.iload 6, 2) := by decide +kernel
theorem dL_law_489 : decode cL_law 489 = .ok (.if_icmp .eq 5, 3) := by decide +kernel
theorem dL_law_494 : decode cL_law 494 = .ok (.iload 6, 2) := by decide +kernel
theorem dL_law_496 : decode cL_law 496 = .ok (.ifCond .ne 15, 3) := by decide +kernel
theorem dL_law_511 : decode cL_law 511 = .ok (.goto 2267, 3) := by decide +kernel
theorem dL_law_514 : decode cL_law 514 = .ok (.aload_n 1, 1) := by decide +kernel
theorem dL_law_515 : decode cL_law 515 = .ok (.aload_n 0, 1) := by decide +kernel
theorem dL_law_516 : decode cL_law 516 = .ok (.iload 5, 2) := by decide +kernel
theorem dL_law_518 : decode cL_law 518 = .ok (.iconst 1, 1) := by decide +kernel
theorem dL_law_519 : decode cL_law 519 = .ok (.iadd, 1) := by decide +kernel
theorem dL_law_520 : decode cL_law 520 = .ok (.iaload, 1) := by decide +kernel
theorem dL_law_521 : decode cL_law 521 = .ok (.aload_n 3, 1) := by decide +kernel
set_option maxRecDepth 20000 in
theorem ggL_law_L_copy : GoodIn wsL_law wsL_copy := goodIn_ca (goodIn_ca (goodIn_ca (goodIn_r _ [425, 324, 209, 426, 427, 428, 2, 429, 15, 119, 120, 430, 431, 432, 330, 331, 332, 333, 334, 335, 17, 16, 222, 223, 224, 225, 226, 227, 228, 131, 132, 133, 13, 14, 134, 42, 43, 135, 136, 137, 138, 139, 140, 71, 141, 142, 143, 144, 145, 62, 63, 64, 65, 66, 67, 68, 69, 70, 72, 433, 434, 435, 436, 348, 349, 350, 351, 437, 344, 345, 346, 347, 337, 338, 339, 352, 353, 229, 230, 231, 232, 1944, 1945, 1946, 1947, 1948, 1949, 1950, 1951, 1952, 1953, 1954, 1847, 1848, 1849, 1850, 1851, 1852, 1853, 1908, 1909, 1910, 1911, 1912, 1913, 1914] (by decide +kernel) (by decide +kernel)) (goodIn_sub (fun _ h => List.mem_append_left _ (List.mem_append_left _ (List.mem_append_left _ (List.mem_append_left _ (List.mem_append_left _ (List.mem_append_left _ (List.mem_append_left _ (List.mem_append_right _ h)))))))) (by decide +kernel))) (goodIn_sub (fun _ h => List.mem_append_left _ (List.mem_append_left _ (List.mem_append_left _ (List.mem_append_left _ (List.mem_append_right _ h))))) (by decide +kernel))) (goodIn_sub (fun _ h => List.mem_append_left _ (List.mem_append_left _ (List.mem_append_left _ (List.mem_append_left _ (List.mem_append_left _ (List.mem_append_right _ h)))))) (by decide +kernel))
set_option maxRecDepth 20000 in
theorem gL_law_L_copy : GoodIn wsL_law (va_wsS RL 164 yL_copy wsL_copy) := goodIn_app (goodIn_of _ (by decide +kernel)) ggL_law_L_copy
theorem dL_law_522 : decode cL_law 522 = .ok (.invokestatic 164, 3) := by decide +kernel
theorem dL_law_525 : decode cL_law 525 = .ok (.istore 6, 2) := by decide +kernel
theorem dL_law_527 : decode cL_law 527 = .ok (.aload_n 2, 1) := by decide +kernel
theorem dL_law_528 : decode cL_law 528 = .ok (.aload_n 0, 1) := by decide +kernel
theorem dL_law_529 : decode cL_law 529 = .ok (.iload 5, 2) := by decide +kernel
theorem dL_law_531 : decode cL_law 531 = .ok (.iconst 1, 1) := by decide +kernel
theorem dL_law_532 : decode cL_law 532 = .ok (.iadd, 1) := by decide +kernel
theorem dL_law_533 : decode cL_law 533 = .ok (.iaload, 1) := by decide +kernel
set_option maxRecDepth 20000 in
theorem ggL_law_X15_copy : GoodIn wsL_law wsX15_copy := goodIn_ca (goodIn_r _ [441, 181, 362, 363, 364, 365, 5, 366, 240, 247, 248, 249, 180, 250, 251, 244, 245, 246, 383, 384, 385, 386, 367, 368, 369, 370, 371, 372, 373, 374, 375, 376, 377, 378, 379, 380, 381, 382, 193, 442, 443, 444, 243, 445, 446, 242, 259, 260, 261, 262, 263, 264, 395, 447, 253, 254, 255, 13, 14, 256, 257, 258, 71, 265, 266, 267, 268, 269, 270, 271, 272, 273, 274, 275, 276, 277, 278, 279, 280, 281, 282, 192, 283, 284, 285, 286, 287, 288, 289, 290, 291, 292, 293, 294, 295, 296, 297, 298, 299, 300, 301, 302, 303, 304, 305, 306, 307, 308, 309, 310, 311, 312, 313, 314, 315, 316, 1854, 1855, 1856, 1857, 1858, 1859, 1860, 1861, 1862, 1863, 1864, 1865, 1866, 1867, 1868, 1869, 1870, 1871, 1872, 1873, 1874, 1955, 1956, 1957, 1958, 1959, 1960, 1961, 1962, 1963, 1964, 1965, 1966, 1967, 1968, 1969] (by decide +kernel) (by decide +kernel)) (goodIn_sub (fun _ h => List.mem_append_left _ (List.mem_append_left _ (List.mem_append_left _ (List.mem_append_left _ (List.mem_append_left _ (List.mem_append_left _ (List.mem_append_left _ (List.mem_append_right _ h)))))))) (by decide +kernel))
set_option maxRecDepth 20000 in
theorem gL_law_X15_copy : GoodIn wsL_law (wsV RL 167 RX15 yX15_copy wsX15_copy) := goodIn_app (goodIn_of _ (by decide +kernel)) ggL_law_X15_copy
theorem dL_law_534 : decode cL_law 534 = .ok (.invokevirtual 167, 3) := by decide +kernel
theorem dL_law_537 : decode cL_law 537 = .ok (.istore 7, 2) := by decide +kernel
theorem dL_law_539 : decode cL_law 539 = .ok (.aload_n 2, 1) := by decide +kernel
theorem dL_law_540 : decode cL_law 540 = .ok (.invokevirtual 152, 3) := by decide +kernel
theorem dL_law_543 : decode cL_law 543 = .ok (.iload 6, 2) := by decide +kernel
theorem dL_law_545 : decode cL_law 545 = .ok (.if_icmp .eq 5, 3) := by decide +kernel
theorem dL_law_550 : decode cL_law 550 = .ok (.iload 6, 2) := by decide +kernel
theorem dL_law_552 : decode cL_law 552 = .ok (.ifCond .ne 15, 3) := by decide +kernel
theorem dL_law_567 : decode cL_law 567 = .ok (.goto 2211, 3) := by decide +kernel
theorem dL_law_570 : decode cL_law 570 = .ok (.aload_n 1, 1) := by decide +kernel
theorem dL_law_571 : decode cL_law 571 = .ok (.aload_n 0, 1) := by decide +kernel
theorem dL_law_572 : decode cL_law 572 = .ok (.iload 5, 2) := by decide +kernel
theorem dL_law_574 : decode cL_law 574 = .ok (.iconst 1, 1) := by decide +kernel
theorem dL_law_575 : decode cL_law 575 = .ok (.iadd, 1) := by decide +kernel
theorem dL_law_576 : decode cL_law 576 = .ok (.iaload, 1) := by decide +kernel
theorem dL_law_577 : decode cL_law 577 = .ok (.aload_n 0, 1) := by decide +kernel
theorem dL_law_578 : decode cL_law 578 = .ok (.iload 5, 2) := by decide +kernel
theorem dL_law_580 : decode cL_law 580 = .ok (.iconst 2, 1) := by decide +kernel
theorem dL_law_581 : decode cL_law 581 = .ok (.iadd, 1) := by decide +kernel
theorem dL_law_582 : decode cL_law 582 = .ok (.iaload, 1) := by decide +kernel
theorem dL_law_583 : decode cL_law 583 = .ok (.aload_n 3, 1) := by decide +kernel
set_option maxRecDepth 20000 in
theorem ggL_law_L_run : GoodIn wsL_law wsL_run := goodIn_ca (goodIn_ca (goodIn_ca (goodIn_r _ [450, 324, 208, 451, 452, 453, 2, 454, 455, 456, 457, 330, 331, 332, 333, 334, 335, 17, 16, 219, 220, 221, 214, 215, 216, 217, 218, 458, 459, 460, 43, 461, 462, 463, 464, 465, 72, 65, 66, 67, 68, 69, 70, 466, 467, 299, 468, 469, 470, 471, 472, 473, 474, 311, 285, 312, 475, 284, 286, 476, 477, 478, 479, 480, 349, 350, 120, 351, 144, 145, 141, 481, 482, 483, 484, 485, 486, 487, 488, 489, 490, 491, 492, 493, 1944, 1945, 1946, 1947, 1948, 1949, 1950, 1951, 1952, 1953, 1954, 1908, 1909, 1910, 1911, 1912, 1913, 1914, 1847, 1848, 1849, 1850, 1851, 1852, 1853] (by decide +kernel) (by decide +kernel)) (goodIn_sub (fun _ h => List.mem_append_left _ (List.mem_append_left _ (List.mem_append_left _ (List.mem_append_left _ (List.mem_append_left _ (List.mem_append_left _ (List.mem_append_left _ (List.mem_append_right _ h)))))))) (by decide +kernel))) (goodIn_sub (fun _ h => List.mem_append_left _ (List.mem_append_left _ (List.mem_append_left _ (List.mem_append_left _ (List.mem_append_right _ h))))) (by decide +kernel))) (goodIn_sub (fun _ h => List.mem_append_left _ (List.mem_append_left _ (List.mem_append_left _ (List.mem_append_left _ (List.mem_append_left _ (List.mem_append_left _ (List.mem_append_right _ h))))))) (by decide +kernel))
set_option maxRecDepth 20000 in
theorem gL_law_L_run : GoodIn wsL_law (va_wsS RL 168 yL_run wsL_run) := goodIn_app (goodIn_of _ (by decide +kernel)) ggL_law_L_run
theorem dL_law_584 : decode cL_law 584 = .ok (.invokestatic 168, 3) := by decide +kernel
theorem dL_law_587 : decode cL_law 587 = .ok (.istore 6, 2) := by decide +kernel
theorem dL_law_589 : decode cL_law 589 = .ok (.aload_n 2, 1) := by decide +kernel
theorem dL_law_590 : decode cL_law 590 = .ok (.aload_n 0, 1) := by decide +kernel
theorem dL_law_591 : decode cL_law 591 = .ok (.iload 5, 2) := by decide +kernel
theorem dL_law_593 : decode cL_law 593 = .ok (.iconst 1, 1) := by decide +kernel
theorem dL_law_594 : decode cL_law 594 = .ok (.iadd, 1) := by decide +kernel
theorem dL_law_595 : decode cL_law 595 = .ok (.iaload, 1) := by decide +kernel
theorem dL_law_596 : decode cL_law 596 = .ok (.aload_n 0, 1) := by decide +kernel
theorem dL_law_597 : decode cL_law 597 = .ok (.iload 5, 2) := by decide +kernel
theorem dL_law_599 : decode cL_law 599 = .ok (.iconst 2, 1) := by decide +kernel
theorem dL_law_600 : decode cL_law 600 = .ok (.iadd, 1) := by decide +kernel
theorem dL_law_601 : decode cL_law 601 = .ok (.iaload, 1) := by decide +kernel
set_option maxRecDepth 20000 in
theorem ggL_law_X15_run : GoodIn wsL_law wsX15_run := goodIn_ca (goodIn_r _ [497, 498, 181, 362, 499, 500, 501, 363, 364, 365, 5, 366, 240, 247, 248, 249, 180, 250, 251, 244, 245, 246, 383, 384, 385, 386, 367, 368, 369, 370, 371, 372, 373, 374, 375, 376, 377, 378, 379, 380, 381, 382, 193, 502, 503, 504, 505, 13, 14, 71, 506, 507, 508, 509, 510, 511, 512, 513, 514, 515, 516, 517, 518, 519, 520, 521, 522, 311, 285, 312, 523, 524, 284, 286, 525, 526, 527, 528, 529, 530, 531, 532, 533, 388, 389, 243, 390, 261, 1854, 1855, 1856, 1857, 1858, 1859, 1860, 1861, 1862, 1863, 1864, 1865, 1866, 1867, 1868, 1869, 1870, 1871, 1872, 1873, 1874, 1970, 1971, 1972, 1973, 1974, 1975, 1976, 1977, 1978, 1958, 1959, 1960, 1961, 1962, 1963, 1964, 1965, 1966, 1967, 1968, 1969, 1955, 1956, 1957] (by decide +kernel) (by decide +kernel)) (goodIn_sub (fun _ h => List.mem_append_left _ (List.mem_append_left _ (List.mem_append_left _ (List.mem_append_left _ (List.mem_append_left _ (List.mem_append_left _ (List.mem_append_left _ (List.mem_append_right _ h)))))))) (by decide +kernel))
set_option maxRecDepth 20000 in
theorem gL_law_X15_run : GoodIn wsL_law (wsV RL 171 RX15 yX15_run wsX15_run) := goodIn_app (goodIn_of _ (by decide +kernel)) ggL_law_X15_run
theorem dL_law_602 : decode cL_law 602 = .ok (.invokevirtual 171, 3) := by decide +kernel
theorem dL_law_605 : decode cL_law 605 = .ok (.istore 7, 2) := by decide +kernel
theorem dL_law_607 : decode cL_law 607 = .ok (.aload_n 2, 1) := by decide +kernel
theorem dL_law_608 : decode cL_law 608 = .ok (.invokevirtual 152, 3) := by decide +kernel
theorem dL_law_611 : decode cL_law 611 = .ok (.iload 6, 2) := by decide +kernel
theorem dL_law_613 : decode cL_law 613 = .ok (.if_icmp .eq 5, 3) := by decide +kernel
theorem dL_law_618 : decode cL_law 618 = .ok (.iload 6, 2) := by decide +kernel
theorem dL_law_620 : decode cL_law 620 = .ok (.ifCond .ne 15, 3) := by decide +kernel
theorem dL_law_635 : decode cL_law 635 = .ok (.goto 2143, 3) := by decide +kernel
theorem dL_law_638 : decode cL_law 638 = .ok (.aload_n 1, 1) := by decide +kernel
theorem dL_law_639 : decode cL_law 639 = .ok (.aload_n 0, 1) := by decide +kernel
theorem dL_law_640 : decode cL_law 640 = .ok (.iload 5, 2) := by decide +kernel
theorem dL_law_642 : decode cL_law 642 = .ok (.iconst 1, 1) := by decide +kernel
theorem dL_law_643 : decode cL_law 643 = .ok (.iadd, 1) := by decide +kernel
theorem dL_law_644 : decode cL_law 644 = .ok (.iaload, 1) := by decide +kernel
theorem dL_law_645 : decode cL_law 645 = .ok (.aload_n 3, 1) := by decide +kernel
set_option maxRecDepth 20000 in
theorem ggL_law_L_hasHalted : GoodIn wsL_law wsL_hasHalted := goodIn_ca (goodIn_ca (goodIn_ca (goodIn_r _ [536, 324, 404, 537, 538, 539, 2, 540, 456, 455, 330, 331, 332, 333, 334, 335, 17, 16, 410, 411, 412, 413, 414, 541, 542, 543, 43, 544, 70, 65, 66, 476, 477, 478, 479, 72, 480, 349, 350, 120, 351, 144, 145, 141, 1944, 1945, 1946, 1947, 1948, 1949, 1950, 1951, 1952, 1953, 1954, 1847, 1848, 1849, 1850, 1851, 1852, 1853, 1908, 1909, 1910, 1911, 1912, 1913, 1914] (by decide +kernel) (by decide +kernel)) (goodIn_sub (fun _ h => List.mem_append_left _ (List.mem_append_left _ (List.mem_append_left _ (List.mem_append_left _ (List.mem_append_left _ (List.mem_append_left _ (List.mem_append_left _ (List.mem_append_right _ h)))))))) (by decide +kernel))) (goodIn_sub (fun _ h => List.mem_append_left _ (List.mem_append_left _ (List.mem_append_left _ (List.mem_append_left _ (List.mem_append_right _ h))))) (by decide +kernel))) (goodIn_sub (fun _ h => List.mem_append_left _ (List.mem_append_left _ (List.mem_append_left _ (List.mem_append_right _ h)))) (by decide +kernel))
set_option maxRecDepth 20000 in
theorem gL_law_L_hasHalted : GoodIn wsL_law (va_wsS RL 172 yL_hasHalted wsL_hasHalted) := goodIn_app (goodIn_of _ (by decide +kernel)) ggL_law_L_hasHalted
theorem dL_law_646 : decode cL_law 646 = .ok (.invokestatic 172, 3) := by decide +kernel
theorem dL_law_649 : decode cL_law 649 = .ok (.istore 6, 2) := by decide +kernel
theorem dL_law_651 : decode cL_law 651 = .ok (.aload_n 2, 1) := by decide +kernel
theorem dL_law_652 : decode cL_law 652 = .ok (.aload_n 0, 1) := by decide +kernel
theorem dL_law_653 : decode cL_law 653 = .ok (.iload 5, 2) := by decide +kernel
theorem dL_law_655 : decode cL_law 655 = .ok (.iconst 1, 1) := by decide +kernel
theorem dL_law_656 : decode cL_law 656 = .ok (.iadd, 1) := by decide +kernel
theorem dL_law_657 : decode cL_law 657 = .ok (.iaload, 1) := by decide +kernel
set_option maxRecDepth 20000 in
theorem ggL_law_X15_hasHalted : GoodIn wsL_law wsX15_hasHalted := goodIn_r _ [548, 549, 550, 551, 5, 552, 181, 362, 240, 363, 364, 365, 366, 247, 248, 249, 180, 250, 251, 244, 245, 246, 367, 368, 369, 370, 371, 372, 373, 374, 375, 376, 377, 378, 379, 380, 381, 382, 193, 1970, 1971, 1972, 1973, 1974, 1975, 1976, 1977, 1978, 1854, 1855, 1856, 1857, 1858, 1859, 1860, 1861, 1862, 1863, 1864, 1865, 1866, 1867, 1868, 1869, 1870, 1871, 1872, 1873, 1874, 1958, 1959, 1960, 1961, 1962, 1963, 1964, 1965, 1966, 1967, 1968, 1969, 1955, 1956, 1957] (by decide +kernel) (by decide +kernel)
set_option maxRecDepth 20000 in
theorem gL_law_X15_hasHalted : GoodIn wsL_law (wsV RL 174 RX15 yX15_hasHalted wsX15_hasHalted) := goodIn_app (goodIn_of _ (by decide +kernel)) ggL_law_X15_hasHalted
theorem dL_law_658 : decode cL_law 658 = .ok (.invokevirtual 174, 3) := by decide +kernel
theorem dL_law_661 : decode cL_law 661 = .ok (.istore 7, 2) := by decide +kernel
theorem dL_law_663 : decode cL_law 663 = .ok (.aload_n 2, 1) := by decide +kernel
theorem dL_law_664 : decode cL_law 664 = .ok (.invokevirtual 152, 3) := by decide +kernel
theorem dL_law_667 : decode cL_law 667 = .ok (.iload 6, 2) := by decide +kernel
theorem dL_law_669 : decode cL_law 669 = .ok (.if_icmp .eq 5, 3) := by decide +kernel
theorem dL_law_674 : decode cL_law 674 = .ok (.iload 6, 2) := by decide +kernel
theorem dL_law_676 : decode cL_law 676 = .ok (.ifCond .ne 22, 3) := by decide +kernel
theorem dL_law_698 : decode cL_law 698 = .ok (.goto 2080, 3) := by decide +kernel
theorem dL_law_701 : decode cL_law 701 = .ok (.aload_n 1, 1) := by decide +kernel
theorem dL_law_702 : decode cL_law 702 = .ok (.aload_n 0, 1) := by decide +kernel
theorem dL_law_703 : decode cL_law 703 = .ok (.iload 5, 2) := by decide +kernel
theorem dL_law_705 : decode cL_law 705 = .ok (.iconst 1, 1) := by decide +kernel
theorem dL_law_706 : decode cL_law 706 = .ok (.iadd, 1) := by decide +kernel
theorem dL_law_707 : decode cL_law 707 = .ok (.iaload, 1) := by decide +kernel
theorem dL_law_708 : decode cL_law 708 = .ok (.aload_n 0, 1) := by decide +kernel
theorem dL_law_709 : decode cL_law 709 = .ok (.iload 5, 2) := by decide +kernel
theorem dL_law_711 : decode cL_law 711 = .ok (.iconst 2, 1) := by decide +kernel
theorem dL_law_712 : decode cL_law 712 = .ok (.iadd, 1) := by decide +kernel
theorem dL_law_713 : decode cL_law 713 = .ok (.iaload, 1) := by decide +kernel
theorem dL_law_714 : decode cL_law 714 = .ok (.i2c, 1) := by decide +kernel
theorem dL_law_715 : decode cL_law 715 = .ok (.aload_n 3, 1) := by decide +kernel
set_option maxRecDepth 20000 in
theorem ggL_law_L_ran : GoodIn wsL_law wsL_ran := goodIn_ca (goodIn_ca (goodIn_ca (goodIn_ca (goodIn_r _ [555, 324, 208, 404, 556, 557, 558, 2, 559, 456, 455, 330, 331, 332, 333, 334, 335, 17, 16, 214, 215, 216, 217, 218, 410, 411, 412, 413, 414, 560, 561, 562, 43, 563, 65, 66, 69, 68, 564, 565, 566, 567, 476, 477, 478, 479, 72, 1944, 1945, 1946, 1947, 1948, 1949, 1950, 1951, 1952, 1953, 1954, 1847, 1848, 1849, 1850, 1851, 1852, 1853, 1908, 1909, 1910, 1911, 1912, 1913, 1914] (by decide +kernel) (by decide +kernel)) (goodIn_sub (fun _ h => List.mem_append_left _ (List.mem_append_left _ (List.mem_append_left _ (List.mem_append_left _ (List.mem_append_left _ (List.mem_append_left _ (List.mem_append_left _ (List.mem_append_right _ h)))))))) (by decide +kernel))) (goodIn_sub (fun _ h => List.mem_append_left _ (List.mem_append_left _ (List.mem_append_left _ (List.mem_append_left _ (List.mem_append_right _ h))))) (by decide +kernel))) (goodIn_sub (fun _ h => List.mem_append_left _ (List.mem_append_left _ (List.mem_append_left _ (List.mem_append_left _ (List.mem_append_left _ (List.mem_append_left _ (List.mem_append_right _ h))))))) (by decide +kernel))) (goodIn_sub (fun _ h => List.mem_append_left _ (List.mem_append_left _ (List.mem_append_left _ (List.mem_append_right _ h)))) (by decide +kernel))
set_option maxRecDepth 20000 in
theorem gL_law_L_ran : GoodIn wsL_law (va_wsS RL 175 yL_ran wsL_ran) := goodIn_app (goodIn_of _ (by decide +kernel)) ggL_law_L_ran
theorem dL_law_716 : decode cL_law 716 = .ok (.invokestatic 175, 3) := by decide +kernel
theorem dL_law_719 : decode cL_law 719 = .ok (.istore 6, 2) := by decide +kernel
theorem dL_law_721 : decode cL_law 721 = .ok (.aload_n 2, 1) := by decide +kernel
theorem dL_law_722 : decode cL_law 722 = .ok (.aload_n 0, 1) := by decide +kernel
theorem dL_law_723 : decode cL_law 723 = .ok (.iload 5, 2) := by decide +kernel
theorem dL_law_725 : decode cL_law 725 = .ok (.iconst 1, 1) := by decide +kernel
theorem dL_law_726 : decode cL_law 726 = .ok (.iadd, 1) := by decide +kernel
theorem dL_law_727 : decode cL_law 727 = .ok (.iaload, 1) := by decide +kernel
theorem dL_law_728 : decode cL_law 728 = .ok (.aload_n 0, 1) := by decide +kernel
theorem dL_law_729 : decode cL_law 729 = .ok (.iload 5, 2) := by decide +kernel
theorem dL_law_731 : decode cL_law 731 = .ok (.iconst 2, 1) := by decide +kernel
theorem dL_law_732 : decode cL_law 732 = .ok (.iadd, 1) := by decide +kernel
theorem dL_law_733 : decode cL_law 733 = .ok (.iaload, 1) := by decide +kernel
theorem dL_law_734 : decode cL_law 734 = .ok (.i2c, 1) := by decide +kernel
set_option maxRecDepth 20000 in
theorem ggL_law_X15_ran : GoodIn wsL_law wsX15_ran := goodIn_ca (goodIn_r _ [571, 363, 364, 365, 5, 366, 181, 240, 247, 248, 249, 180, 250, 251, 244, 245, 246, 572, 573, 574, 575, 576, 577, 578, 579, 580, 581, 582, 583, 584, 585, 586, 587, 588, 589, 590, 591, 592, 593, 594, 595, 596, 597, 598, 599, 600, 284, 285, 286, 601, 311, 312, 602, 603, 604, 605, 606, 607, 608, 609, 610, 611, 612, 613, 614, 615, 616, 617, 618, 619, 620, 621, 622, 623, 624, 625, 626, 627, 628, 629, 377, 630, 631, 632, 633, 634, 635, 636, 637, 638, 639, 640, 641, 642, 643, 644, 645, 646, 647, 648, 649, 650, 651, 652, 653, 654, 383, 384, 385, 386, 549, 550, 551, 552, 362, 367, 368, 369, 370, 371, 372, 373, 374, 375, 376, 378, 379, 380, 381, 382, 193, 655, 656, 657, 501, 658, 521, 523, 506, 1970, 1971, 1972, 1973, 1974, 1975, 1976, 1977, 1978, 1854, 1855, 1856, 1857, 1858, 1859, 1860, 1861, 1862, 1863, 1864, 1865, 1866, 1867, 1868, 1869, 1870, 1871, 1872, 1873, 1874, 1955, 1956, 1957, 1979, 1980, 1981, 1982, 1958, 1959, 1960, 1961, 1962, 1963, 1964, 1965, 1966, 1967, 1968, 1969] (by decide +kernel) (by decide +kernel)) (goodIn_sub (fun _ h => List.mem_append_left _ (List.mem_append_left _ (List.mem_append_left _ (List.mem_append_left _ (List.mem_append_left _ (List.mem_append_left _ (List.mem_append_left _ (List.mem_append_right _ h)))))))) (by decide +kernel))
set_option maxRecDepth 20000 in
theorem gL_law_X15_ran : GoodIn wsL_law (wsV RL 178 RX15 yX15_ran wsX15_ran) := goodIn_app (goodIn_of _ (by decide +kernel)) ggL_law_X15_ran
theorem dL_law_735 : decode cL_law 735 = .ok (.invokevirtual 178, 3) := by decide +kernel
theorem dL_law_738 : decode cL_law 738 = .ok (.istore 7, 2) := by decide +kernel
theorem dL_law_740 : decode cL_law 740 = .ok (.aload_n 2, 1) := by decide +kernel
theorem dL_law_741 : decode cL_law 741 = .ok (.invokevirtual 152, 3) := by decide +kernel
theorem dL_law_744 : decode cL_law 744 = .ok (.iload 6, 2) := by decide +kernel
theorem dL_law_746 : decode cL_law 746 = .ok (.if_icmp .eq 5, 3) := by decide +kernel
theorem dL_law_751 : decode cL_law 751 = .ok (.iload 6, 2) := by decide +kernel
theorem dL_law_753 : decode cL_law 753 = .ok (.ifCond .ne 15, 3) := by decide +kernel
theorem dL_law_768 : decode cL_law 768 = .ok (.goto 2010, 3) := by decide +kernel
theorem dL_law_771 : decode cL_law 771 = .ok (.aload_n 1, 1) := by decide +kernel
theorem dL_law_772 : decode cL_law 772 = .ok (.aload_n 0, 1) := by decide +kernel
theorem dL_law_773 : decode cL_law 773 = .ok (.iload 5, 2) := by decide +kernel
theorem dL_law_775 : decode cL_law 775 = .ok (.iconst 1, 1) := by decide +kernel
theorem dL_law_776 : decode cL_law 776 = .ok (.iadd, 1) := by decide +kernel
theorem dL_law_777 : decode cL_law 777 = .ok (.iaload, 1) := by decide +kernel
theorem dL_law_778 : decode cL_law 778 = .ok (.aload_n 0, 1) := by decide +kernel
theorem dL_law_779 : decode cL_law 779 = .ok (.iload 5, 2) := by decide +kernel
theorem dL_law_781 : decode cL_law 781 = .ok (.iconst 2, 1) := by decide +kernel
theorem dL_law_782 : decode cL_law 782 = .ok (.iadd, 1) := by decide +kernel
theorem dL_law_783 : decode cL_law 783 = .ok (.iaload, 1) := by decide +kernel
theorem dL_law_784 : decode cL_law 784 = .ok (.aload_n 3, 1) := by decide +kernel
set_option maxRecDepth 20000 in
theorem ggL_law_L_signAt : GoodIn wsL_law wsL_signAt := goodIn_ca (goodIn_ca (goodIn_ca (goodIn_r _ [661, 324, 404, 662, 663, 664, 2, 665, 456, 455, 330, 331, 332, 333, 334, 335, 17, 16, 410, 411, 412, 413, 414, 666, 477, 478, 43, 479, 72, 1944, 1945, 1946, 1947, 1948, 1949, 1950, 1951, 1952, 1953, 1954, 1847, 1848, 1849, 1850, 1851, 1852, 1853, 1908, 1909, 1910, 1911, 1912, 1913, 1914] (by decide +kernel) (by decide +kernel)) (goodIn_sub (fun _ h => List.mem_append_left _ (List.mem_append_left _ (List.mem_append_left _ (List.mem_append_left _ (List.mem_append_left _ (List.mem_append_left _ (List.mem_append_left _ (List.mem_append_right _ h)))))))) (by decide +kernel))) (goodIn_sub (fun _ h => List.mem_append_left _ (List.mem_append_left _ (List.mem_append_left _ (List.mem_append_left _ (List.mem_append_right _ h))))) (by decide +kernel))) (goodIn_sub (fun _ h => List.mem_append_left _ (List.mem_append_left _ (List.mem_append_left _ (List.mem_append_right _ h)))) (by decide +kernel))
set_option maxRecDepth 20000 in
theorem gL_law_L_signAt : GoodIn wsL_law (va_wsS RL 179 yL_signAt wsL_signAt) := goodIn_app (goodIn_of _ (by decide +kernel)) ggL_law_L_signAt
theorem dL_law_785 : decode cL_law 785 = .ok (.invokestatic 179, 3) := by decide +kernel
theorem dL_law_788 : decode cL_law 788 = .ok (.istore 6, 2) := by decide +kernel
theorem dL_law_790 : decode cL_law 790 = .ok (.aload_n 2, 1) := by decide +kernel
theorem dL_law_791 : decode cL_law 791 = .ok (.aload_n 0, 1) := by decide +kernel
theorem dL_law_792 : decode cL_law 792 = .ok (.iload 5, 2) := by decide +kernel
theorem dL_law_794 : decode cL_law 794 = .ok (.iconst 1, 1) := by decide +kernel
theorem dL_law_795 : decode cL_law 795 = .ok (.iadd, 1) := by decide +kernel
theorem dL_law_796 : decode cL_law 796 = .ok (.iaload, 1) := by decide +kernel
theorem dL_law_797 : decode cL_law 797 = .ok (.aload_n 0, 1) := by decide +kernel
theorem dL_law_798 : decode cL_law 798 = .ok (.iload 5, 2) := by decide +kernel
theorem dL_law_800 : decode cL_law 800 = .ok (.iconst 2, 1) := by decide +kernel
theorem dL_law_801 : decode cL_law 801 = .ok (.iadd, 1) := by decide +kernel
theorem dL_law_802 : decode cL_law 802 = .ok (.iaload, 1) := by decide +kernel
set_option maxRecDepth 20000 in
theorem ggL_law_X15_signAt : GoodIn wsL_law wsX15_signAt := goodIn_ca (goodIn_r _ [670, 671, 672, 549, 550, 551, 5, 552, 181, 362, 240, 363, 364, 365, 366, 247, 248, 249, 180, 250, 251, 244, 245, 246, 367, 368, 369, 370, 371, 372, 373, 374, 375, 376, 377, 378, 379, 380, 381, 382, 193, 1970, 1971, 1972, 1973, 1974, 1975, 1976, 1977, 1978, 1854, 1855, 1856, 1857, 1858, 1859, 1860, 1861, 1862, 1863, 1864, 1865, 1866, 1867, 1868, 1869, 1870, 1871, 1872, 1873, 1874, 1958, 1959, 1960, 1961, 1962, 1963, 1964, 1965, 1966, 1967, 1968, 1969, 1955, 1956, 1957] (by decide +kernel) (by decide +kernel)) (goodIn_sub (fun _ h => List.mem_append_left _ (List.mem_append_left _ (List.mem_append_left _ (List.mem_append_left _ (List.mem_append_left _ (List.mem_append_left _ (List.mem_append_left _ (List.mem_append_right _ h)))))))) (by decide +kernel))
set_option maxRecDepth 20000 in
theorem gL_law_X15_signAt : GoodIn wsL_law (wsV RL 181 RX15 yX15_signAt wsX15_signAt) := goodIn_app (goodIn_of _ (by decide +kernel)) ggL_law_X15_signAt
theorem dL_law_803 : decode cL_law 803 = .ok (.invokevirtual 181, 3) := by decide +kernel
theorem dL_law_806 : decode cL_law 806 = .ok (.istore 7, 2) := by decide +kernel
theorem dL_law_808 : decode cL_law 808 = .ok (.aload_n 2, 1) := by decide +kernel
theorem dL_law_809 : decode cL_law 809 = .ok (.invokevirtual 152, 3) := by decide +kernel
theorem dL_law_812 : decode cL_law 812 = .ok (.iload 6, 2) := by decide +kernel
theorem dL_law_814 : decode cL_law 814 = .ok (.if_icmp .eq 5, 3) := by decide +kernel
theorem dL_law_819 : decode cL_law 819 = .ok (.iload 6, 2) := by decide +kernel
theorem dL_law_821 : decode cL_law 821 = .ok (.ifCond .ne 15, 3) := by decide +kernel
theorem dL_law_836 : decode cL_law 836 = .ok (.goto 1942, 3) := by decide +kernel
theorem dL_law_839 : decode cL_law 839 = .ok (.aload_n 1, 1) := by decide +kernel
theorem dL_law_840 : decode cL_law 840 = .ok (.aload_n 0, 1) := by decide +kernel
theorem dL_law_841 : decode cL_law 841 = .ok (.iload 5, 2) := by decide +kernel
theorem dL_law_843 : decode cL_law 843 = .ok (.iconst 1, 1) := by decide +kernel
theorem dL_law_844 : decode cL_law 844 = .ok (.iadd, 1) := by decide +kernel
theorem dL_law_845 : decode cL_law 845 = .ok (.iaload, 1) := by decide +kernel
theorem dL_law_846 : decode cL_law 846 = .ok (.aload_n 3, 1) := by decide +kernel
set_option maxRecDepth 20000 in
theorem ggL_law_L_print : GoodIn wsL_law wsL_print := goodIn_ca (goodIn_ca (goodIn_ca (goodIn_r _ [675, 324, 404, 676, 677, 678, 2, 679, 456, 455, 330, 331, 332, 333, 334, 335, 17, 16, 410, 411, 412, 413, 414, 680, 681, 682, 43, 683, 684, 685, 65, 66, 68, 69, 476, 477, 478, 479, 72, 1944, 1945, 1946, 1947, 1948, 1949, 1950, 1951, 1952, 1953, 1954, 1847, 1848, 1849, 1850, 1851, 1852, 1853, 1908, 1909, 1910, 1911, 1912, 1913, 1914] (by decide +kernel) (by decide +kernel)) (goodIn_sub (fun _ h => List.mem_append_left _ (List.mem_append_left _ (List.mem_append_left _ (List.mem_append_left _ (List.mem_append_left _ (List.mem_append_left _ (List.mem_append_left _ (List.mem_append_right _ h)))))))) (by decide +kernel))) (goodIn_sub (fun _ h => List.mem_append_left _ (List.mem_append_left _ (List.mem_append_left _ (List.mem_append_left _ (List.mem_append_right _ h))))) (by decide +kernel))) (goodIn_sub (fun _ h => List.mem_append_left _ (List.mem_append_left _ (List.mem_append_left _ (List.mem_append_right _ h)))) (by decide +kernel))
set_option maxRecDepth 20000 in
theorem gL_law_L_print : GoodIn wsL_law (va_wsS RL 182 yL_print wsL_print) := goodIn_app (goodIn_of _ (by decide +kernel)) ggL_law_L_print
theorem dL_law_847 : decode cL_law 847 = .ok (.invokestatic 182, 3) := by decide +kernel
theorem dL_law_850 : decode cL_law 850 = .ok (.istore 6, 2) := by decide +kernel
theorem dL_law_852 : decode cL_law 852 = .ok (.aload_n 2, 1) := by decide +kernel
theorem dL_law_853 : decode cL_law 853 = .ok (.aload_n 0, 1) := by decide +kernel
theorem dL_law_854 : decode cL_law 854 = .ok (.iload 5, 2) := by decide +kernel
theorem dL_law_856 : decode cL_law 856 = .ok (.iconst 1, 1) := by decide +kernel
theorem dL_law_857 : decode cL_law 857 = .ok (.iadd, 1) := by decide +kernel
theorem dL_law_858 : decode cL_law 858 = .ok (.iaload, 1) := by decide +kernel
set_option maxRecDepth 20000 in
theorem ggL_law_X15_print : GoodIn wsL_law wsX15_print := goodIn_ca (goodIn_r _ [689, 549, 550, 551, 5, 552, 181, 362, 240, 363, 364, 365, 366, 247, 248, 249, 180, 250, 251, 244, 245, 246, 367, 368, 369, 370, 371, 372, 373, 374, 375, 376, 377, 378, 379, 380, 381, 382, 193, 690, 691, 692, 501, 693, 694, 695, 520, 519, 521, 523, 506, 1854, 1855, 1856, 1857, 1858, 1859, 1860, 1861, 1862, 1863, 1864, 1865, 1866, 1867, 1868, 1869, 1870, 1871, 1872, 1873, 1874, 1958, 1959, 1960, 1961, 1962, 1963, 1964, 1965, 1966, 1967, 1968, 1969, 1955, 1956, 1957, 1970, 1971, 1972, 1973, 1974, 1975, 1976, 1977, 1978] (by decide +kernel) (by decide +kernel)) (goodIn_sub (fun _ h => List.mem_append_left _ (List.mem_append_left _ (List.mem_append_left _ (List.mem_append_left _ (List.mem_append_left _ (List.mem_append_left _ (List.mem_append_left _ (List.mem_append_right _ h)))))))) (by decide +kernel))
set_option maxRecDepth 20000 in
theorem gL_law_X15_print : GoodIn wsL_law (wsV RL 184 RX15 yX15_print wsX15_print) := goodIn_app (goodIn_of _ (by decide +kernel)) ggL_law_X15_print
theorem dL_law_859 : decode cL_law 859 = .ok (.invokevirtual 184, 3) := by decide +kernel
theorem dL_law_862 : decode cL_law 862 = .ok (.lstore 7, 2) := by decide +kernel
theorem dL_law_864 : decode cL_law 864 = .ok (.aload_n 2, 1) := by decide +kernel
theorem dL_law_865 : decode cL_law 865 = .ok (.invokevirtual 152, 3) := by decide +kernel
theorem dL_law_868 : decode cL_law 868 = .ok (.iload 6, 2) := by decide +kernel
theorem dL_law_870 : decode cL_law 870 = .ok (.if_icmp .eq 5, 3) := by decide +kernel
theorem dL_law_875 : decode cL_law 875 = .ok (.iload 6, 2) := by decide +kernel
theorem dL_law_877 : decode cL_law 877 = .ok (.ifCond .ne 14, 3) := by decide +kernel
theorem dL_law_891 : decode cL_law 891 = .ok (.goto 1887, 3) := by decide +kernel
theorem dL_law_894 : decode cL_law 894 = .ok (.aload_n 1, 1) := by decide +kernel
theorem dL_law_895 : decode cL_law 895 = .ok (.aload_n 0, 1) := by decide +kernel
theorem dL_law_896 : decode cL_law 896 = .ok (.iload 5, 2) := by decide +kernel
theorem dL_law_898 : decode cL_law 898 = .ok (.iconst 1, 1) := by decide +kernel
theorem dL_law_899 : decode cL_law 899 = .ok (.iadd, 1) := by decide +kernel
theorem dL_law_900 : decode cL_law 900 = .ok (.iaload, 1) := by decide +kernel
theorem dL_law_901 : decode cL_law 901 = .ok (.aload_n 0, 1) := by decide +kernel
theorem dL_law_902 : decode cL_law 902 = .ok (.iload 5, 2) := by decide +kernel
theorem dL_law_904 : decode cL_law 904 = .ok (.iconst 2, 1) := by decide +kernel
theorem dL_law_905 : decode cL_law 905 = .ok (.iadd, 1) := by decide +kernel
theorem dL_law_906 : decode cL_law 906 = .ok (.iaload, 1) := by decide +kernel
theorem dL_law_907 : decode cL_law 907 = .ok (.aload_n 3, 1) := by decide +kernel
set_option maxRecDepth 20000 in
theorem ggL_law_L_printByRuns : GoodIn wsL_law wsL_printByRuns := goodIn_ca (goodIn_ca (goodIn_ca (goodIn_r _ [698, 324, 208, 699, 700, 701, 2, 702, 21, 330, 331, 332, 333, 334, 335, 17, 16, 219, 220, 221, 214, 215, 216, 217, 218, 703, 704, 705, 20, 706, 57, 707, 708, 709, 56, 710, 98, 99, 100, 97, 101, 104, 352, 353, 711, 712, 713, 714, 715, 716, 349, 350, 120, 351, 144, 145, 141, 717, 482, 483, 718, 492, 493, 719, 485, 486, 720, 721, 722, 723, 724, 725, 726, 727, 102, 103, 728, 729, 730, 731, 732, 733, 734, 735, 736, 737, 738, 739, 740, 741, 742, 743, 1847, 1848, 1849, 1850, 1851, 1852, 1853, 1875, 1876, 1877, 1878, 1879, 1880, 1929, 1930, 1931, 1932, 1933, 1934, 1935, 1936, 1944, 1945, 1946, 1947, 1948, 1949, 1950, 1951, 1952, 1953, 1954] (by decide +kernel) (by decide +kernel)) (goodIn_sub (fun _ h => List.mem_append_left _ (List.mem_append_left _ (List.mem_append_left _ (List.mem_append_left _ (List.mem_append_left _ (List.mem_append_left _ (List.mem_append_left _ (List.mem_append_right _ h)))))))) (by decide +kernel))) (goodIn_sub (fun _ h => List.mem_append_left _ (List.mem_append_left _ (List.mem_append_left _ (List.mem_append_left _ (List.mem_append_right _ h))))) (by decide +kernel))) (goodIn_sub (fun _ h => List.mem_append_left _ (List.mem_append_left _ (List.mem_append_left _ (List.mem_append_left _ (List.mem_append_left _ (List.mem_append_left _ (List.mem_append_right _ h))))))) (by decide +kernel))
set_option maxRecDepth 20000 in
theorem gL_law_L_printByRuns : GoodIn wsL_law (va_wsS RL 185 yL_printByRuns wsL_printByRuns) := goodIn_app (goodIn_of _ (by decide +kernel)) ggL_law_L_printByRuns
theorem dL_law_908 : decode cL_law 908 = .ok (.invokestatic 185, 3) := by decide +kernel
theorem dL_law_911 : decode cL_law 911 = .ok (.istore 6, 2) := by decide +kernel
theorem dL_law_913 : decode cL_law 913 = .ok (.aload_n 2, 1) := by decide +kernel
theorem dL_law_914 : decode cL_law 914 = .ok (.aload_n 0, 1) := by decide +kernel
theorem dL_law_915 : decode cL_law 915 = .ok (.iload 5, 2) := by decide +kernel
theorem dL_law_917 : decode cL_law 917 = .ok (.iconst 1, 1) := by decide +kernel
theorem dL_law_918 : decode cL_law 918 = .ok (.iadd, 1) := by decide +kernel
theorem dL_law_919 : decode cL_law 919 = .ok (.iaload, 1) := by decide +kernel
theorem dL_law_920 : decode cL_law 920 = .ok (.aload_n 0, 1) := by decide +kernel
theorem dL_law_921 : decode cL_law 921 = .ok (.iload 5, 2) := by decide +kernel
theorem dL_law_923 : decode cL_law 923 = .ok (.iconst 2, 1) := by decide +kernel
theorem dL_law_924 : decode cL_law 924 = .ok (.iadd, 1) := by decide +kernel
theorem dL_law_925 : decode cL_law 925 = .ok (.iaload, 1) := by decide +kernel
set_option maxRecDepth 20000 in
theorem ggL_law_X15_printByRuns : GoodIn wsL_law wsX15_printByRuns := goodIn_ca (goodIn_r _ [747, 498, 240, 499, 500, 501, 181, 362, 363, 364, 365, 5, 366, 247, 248, 249, 180, 250, 251, 244, 245, 246, 367, 368, 369, 370, 371, 372, 373, 374, 375, 376, 377, 378, 379, 380, 381, 382, 193, 502, 503, 504, 505, 13, 14, 71, 506, 507, 508, 509, 510, 511, 512, 513, 514, 515, 516, 517, 518, 519, 520, 521, 522, 311, 285, 312, 523, 524, 284, 286, 525, 526, 527, 528, 529, 530, 531, 532, 533, 388, 389, 243, 390, 261, 690, 691, 692, 693, 694, 695, 1854, 1855, 1856, 1857, 1858, 1859, 1860, 1861, 1862, 1863, 1864, 1865, 1866, 1867, 1868, 1869, 1870, 1871, 1872, 1873, 1874, 1970, 1971, 1972, 1973, 1974, 1975, 1976, 1977, 1978, 1955, 1956, 1957, 1958, 1959, 1960, 1961, 1962, 1963, 1964, 1965, 1966, 1967, 1968, 1969] (by decide +kernel) (by decide +kernel)) (goodIn_sub (fun _ h => List.mem_append_left _ (List.mem_append_left _ (List.mem_append_left _ (List.mem_append_left _ (List.mem_append_left _ (List.mem_append_left _ (List.mem_append_left _ (List.mem_append_right _ h)))))))) (by decide +kernel))
set_option maxRecDepth 20000 in
theorem gL_law_X15_printByRuns : GoodIn wsL_law (wsV RL 187 RX15 yX15_printByRuns wsX15_printByRuns) := goodIn_app (goodIn_of _ (by decide +kernel)) ggL_law_X15_printByRuns
theorem dL_law_926 : decode cL_law 926 = .ok (.invokevirtual 187, 3) := by decide +kernel
theorem dL_law_929 : decode cL_law 929 = .ok (.lstore 7, 2) := by decide +kernel
theorem dL_law_931 : decode cL_law 931 = .ok (.aload_n 2, 1) := by decide +kernel
theorem dL_law_932 : decode cL_law 932 = .ok (.invokevirtual 152, 3) := by decide +kernel
theorem dL_law_935 : decode cL_law 935 = .ok (.iload 6, 2) := by decide +kernel
theorem dL_law_937 : decode cL_law 937 = .ok (.if_icmp .eq 5, 3) := by decide +kernel
theorem dL_law_942 : decode cL_law 942 = .ok (.iload 6, 2) := by decide +kernel
theorem dL_law_944 : decode cL_law 944 = .ok (.ifCond .ne 14, 3) := by decide +kernel
theorem dL_law_958 : decode cL_law 958 = .ok (.goto 1820, 3) := by decide +kernel
theorem dL_law_961 : decode cL_law 961 = .ok (.aload_n 1, 1) := by decide +kernel
theorem dL_law_962 : decode cL_law 962 = .ok (.aload_n 0, 1) := by decide +kernel
theorem dL_law_963 : decode cL_law 963 = .ok (.iload 5, 2) := by decide +kernel
theorem dL_law_965 : decode cL_law 965 = .ok (.iconst 1, 1) := by decide +kernel
theorem dL_law_966 : decode cL_law 966 = .ok (.iadd, 1) := by decide +kernel
theorem dL_law_967 : decode cL_law 967 = .ok (.iaload, 1) := by decide +kernel
theorem dL_law_968 : decode cL_law 968 = .ok (.aload_n 3, 1) := by decide +kernel
set_option maxRecDepth 20000 in
theorem ggL_law_L_runsOf : GoodIn wsL_law wsL_runsOf := goodIn_ca (goodIn_ca (goodIn_ca (goodIn_r _ [750, 324, 404, 751, 752, 753, 2, 754, 456, 455, 330, 331, 332, 333, 334, 335, 17, 16, 410, 411, 412, 413, 414, 755, 756, 757, 43, 758, 68, 69, 476, 477, 478, 479, 72, 1944, 1945, 1946, 1947, 1948, 1949, 1950, 1951, 1952, 1953, 1954, 1847, 1848, 1849, 1850, 1851, 1852, 1853, 1908, 1909, 1910, 1911, 1912, 1913, 1914] (by decide +kernel) (by decide +kernel)) (goodIn_sub (fun _ h => List.mem_append_left _ (List.mem_append_left _ (List.mem_append_left _ (List.mem_append_left _ (List.mem_append_left _ (List.mem_append_left _ (List.mem_append_left _ (List.mem_append_right _ h)))))))) (by decide +kernel))) (goodIn_sub (fun _ h => List.mem_append_left _ (List.mem_append_left _ (List.mem_append_left _ (List.mem_append_left _ (List.mem_append_right _ h))))) (by decide +kernel))) (goodIn_sub (fun _ h => List.mem_append_left _ (List.mem_append_left _ (List.mem_append_left _ (List.mem_append_right _ h)))) (by decide +kernel))
set_option maxRecDepth 20000 in
theorem gL_law_L_runsOf : GoodIn wsL_law (va_wsS RL 188 yL_runsOf wsL_runsOf) := goodIn_app (goodIn_of _ (by decide +kernel)) ggL_law_L_runsOf
theorem dL_law_969 : decode cL_law 969 = .ok (.invokestatic 188, 3) := by decide +kernel
theorem dL_law_972 : decode cL_law 972 = .ok (.istore 6, 2) := by decide +kernel
theorem dL_law_974 : decode cL_law 974 = .ok (.aload_n 2, 1) := by decide +kernel
theorem dL_law_975 : decode cL_law 975 = .ok (.aload_n 0, 1) := by decide +kernel
theorem dL_law_976 : decode cL_law 976 = .ok (.iload 5, 2) := by decide +kernel
theorem dL_law_978 : decode cL_law 978 = .ok (.iconst 1, 1) := by decide +kernel
theorem dL_law_979 : decode cL_law 979 = .ok (.iadd, 1) := by decide +kernel
theorem dL_law_980 : decode cL_law 980 = .ok (.iaload, 1) := by decide +kernel
set_option maxRecDepth 20000 in
theorem ggL_law_X15_runsOf : GoodIn wsL_law wsX15_runsOf := goodIn_ca (goodIn_r _ [762, 549, 550, 551, 5, 552, 181, 362, 240, 363, 364, 365, 366, 247, 248, 249, 180, 250, 251, 244, 245, 246, 367, 368, 369, 370, 371, 372, 373, 374, 375, 376, 377, 378, 379, 380, 381, 382, 193, 763, 764, 765, 501, 766, 521, 523, 506, 1854, 1855, 1856, 1857, 1858, 1859, 1860, 1861, 1862, 1863, 1864, 1865, 1866, 1867, 1868, 1869, 1870, 1871, 1872, 1873, 1874, 1958, 1959, 1960, 1961, 1962, 1963, 1964, 1965, 1966, 1967, 1968, 1969, 1955, 1956, 1957, 1970, 1971, 1972, 1973, 1974, 1975, 1976, 1977, 1978] (by decide +kernel) (by decide +kernel)) (goodIn_sub (fun _ h => List.mem_append_left _ (List.mem_append_left _ (List.mem_append_left _ (List.mem_append_left _ (List.mem_append_left _ (List.mem_append_left _ (List.mem_append_left _ (List.mem_append_right _ h)))))))) (by decide +kernel))
set_option maxRecDepth 20000 in
theorem gL_law_X15_runsOf : GoodIn wsL_law (wsV RL 190 RX15 yX15_runsOf wsX15_runsOf) := goodIn_app (goodIn_of _ (by decide +kernel)) ggL_law_X15_runsOf
theorem dL_law_981 : decode cL_law 981 = .ok (.invokevirtual 190, 3) := by decide +kernel
theorem dL_law_984 : decode cL_law 984 = .ok (.istore 7, 2) := by decide +kernel
theorem dL_law_986 : decode cL_law 986 = .ok (.aload_n 2, 1) := by decide +kernel
theorem dL_law_987 : decode cL_law 987 = .ok (.invokevirtual 152, 3) := by decide +kernel
theorem dL_law_990 : decode cL_law 990 = .ok (.iload 6, 2) := by decide +kernel
theorem dL_law_992 : decode cL_law 992 = .ok (.if_icmp .eq 5, 3) := by decide +kernel
theorem dL_law_997 : decode cL_law 997 = .ok (.iload 6, 2) := by decide +kernel
theorem dL_law_999 : decode cL_law 999 = .ok (.ifCond .ne 15, 3) := by decide +kernel
theorem dL_law_1014 : decode cL_law 1014 = .ok (.goto 1764, 3) := by decide +kernel
theorem dL_law_1017 : decode cL_law 1017 = .ok (.aload_n 1, 1) := by decide +kernel
theorem dL_law_1018 : decode cL_law 1018 = .ok (.aload_n 0, 1) := by decide +kernel
theorem dL_law_1019 : decode cL_law 1019 = .ok (.iload 5, 2) := by decide +kernel
theorem dL_law_1021 : decode cL_law 1021 = .ok (.iconst 1, 1) := by decide +kernel
theorem dL_law_1022 : decode cL_law 1022 = .ok (.iadd, 1) := by decide +kernel
theorem dL_law_1023 : decode cL_law 1023 = .ok (.iaload, 1) := by decide +kernel
theorem dL_law_1024 : decode cL_law 1024 = .ok (.aload_n 0, 1) := by decide +kernel
theorem dL_law_1025 : decode cL_law 1025 = .ok (.iload 5, 2) := by decide +kernel
theorem dL_law_1027 : decode cL_law 1027 = .ok (.iconst 2, 1) := by decide +kernel
theorem dL_law_1028 : decode cL_law 1028 = .ok (.iadd, 1) := by decide +kernel
theorem dL_law_1029 : decode cL_law 1029 = .ok (.iaload, 1) := by decide +kernel
theorem dL_law_1030 : decode cL_law 1030 = .ok (.i2c, 1) := by decide +kernel
theorem dL_law_1031 : decode cL_law 1031 = .ok (.aload_n 0, 1) := by decide +kernel
theorem dL_law_1032 : decode cL_law 1032 = .ok (.iload 5, 2) := by decide +kernel
theorem dL_law_1034 : decode cL_law 1034 = .ok (.iconst 3, 1) := by decide +kernel
theorem dL_law_1035 : decode cL_law 1035 = .ok (.iadd, 1) := by decide +kernel
theorem dL_law_1036 : decode cL_law 1036 = .ok (.iaload, 1) := by decide +kernel
theorem dL_law_1037 : decode cL_law 1037 = .ok (.aload_n 3, 1) := by decide +kernel
set_option maxRecDepth 20000 in
theorem ggL_law_L_decide : GoodIn wsL_law wsL_decide := goodIn_ca (goodIn_ca (goodIn_ca (goodIn_ca (goodIn_r _ [769, 324, 208, 770, 771, 772, 773, 2, 774, 775, 776, 430, 21, 330, 331, 332, 333, 334, 335, 17, 16, 777, 778, 20, 779, 219, 220, 221, 214, 215, 216, 217, 218, 780, 781, 782, 783, 44, 784, 48, 785, 786, 52, 61, 787, 788, 459, 460, 43, 461, 462, 463, 464, 465, 72, 65, 66, 67, 68, 69, 70, 466, 467, 299, 468, 469, 470, 471, 472, 473, 474, 311, 285, 312, 475, 284, 286, 476, 477, 478, 479, 480, 349, 350, 120, 351, 144, 145, 141, 481, 482, 483, 484, 485, 486, 487, 488, 489, 490, 491, 492, 493, 789, 542, 543, 544, 790, 565, 566, 567, 791, 792, 793, 794, 795, 796, 797, 798, 799, 47, 800, 81, 76, 77, 801, 802, 803, 804, 79, 82, 83, 84, 805, 806, 807, 808, 352, 353, 809, 810, 811, 812, 813, 814, 80, 815, 816, 817, 818, 819, 314, 315, 316, 728, 729, 820, 821, 822, 823, 824, 825, 826, 827, 828, 829, 830, 831, 832, 833, 834, 835, 836, 85, 837, 838, 839, 840, 841, 842, 843, 844, 845, 846, 847, 848, 51, 849, 89, 850, 851, 852, 853, 91, 90, 93, 92, 854, 855, 856, 857, 858, 859, 860, 861, 862, 863, 864, 865, 866, 867, 868, 869, 870, 871, 872, 873, 874, 875, 876, 877, 878, 879, 880, 881, 882, 883, 884, 885, 886, 60, 887, 109, 108, 110, 111, 112, 114, 113, 888, 889, 890, 891, 892, 893, 894, 895, 896, 897, 898, 899, 900, 901, 902, 903, 904, 905, 906, 907, 908, 909, 910, 911, 912, 913, 914, 915, 916, 917, 1944, 1945, 1946, 1947, 1948, 1949, 1950, 1951, 1952, 1953, 1954, 1847, 1848, 1849, 1850, 1851, 1852, 1853, 1875, 1876, 1877, 1878, 1879, 1880, 1908, 1909, 1910, 1911, 1912, 1913, 1914, 1915, 1916, 1917, 1918, 1919, 1920, 1921, 1922, 1923, 1937, 1938, 1939, 1940, 1941, 1942, 1943, 1924, 1925, 1926, 1927, 1928] (by decide +kernel) (by decide +kernel)) (goodIn_sub (fun _ h => List.mem_append_left _ (List.mem_append_left _ (List.mem_append_left _ (List.mem_append_left _ (List.mem_append_left _ (List.mem_append_left _ (List.mem_append_left _ (List.mem_append_right _ h)))))))) (by decide +kernel))) (goodIn_sub (fun _ h => List.mem_append_left _ (List.mem_append_left _ (List.mem_append_right _ h))) (by decide +kernel))) (goodIn_sub (fun _ h => List.mem_append_left _ (List.mem_append_left _ (List.mem_append_left _ (List.mem_append_left _ (List.mem_append_right _ h))))) (by decide +kernel))) (goodIn_sub (fun _ h => List.mem_append_left _ (List.mem_append_left _ (List.mem_append_left _ (List.mem_append_left _ (List.mem_append_left _ (List.mem_append_left _ (List.mem_append_right _ h))))))) (by decide +kernel))
set_option maxRecDepth 20000 in
theorem gL_law_L_decide : GoodIn wsL_law (va_wsS RL 191 yL_decide wsL_decide) := goodIn_app (goodIn_of _ (by decide +kernel)) ggL_law_L_decide
theorem dL_law_1038 : decode cL_law 1038 = .ok (.invokestatic 191, 3) := by decide +kernel
theorem dL_law_1041 : decode cL_law 1041 = .ok (.istore 6, 2) := by decide +kernel
theorem dL_law_1043 : decode cL_law 1043 = .ok (.aload_n 2, 1) := by decide +kernel
theorem dL_law_1044 : decode cL_law 1044 = .ok (.aload_n 0, 1) := by decide +kernel
theorem dL_law_1045 : decode cL_law 1045 = .ok (.iload 5, 2) := by decide +kernel
theorem dL_law_1047 : decode cL_law 1047 = .ok (.iconst 1, 1) := by decide +kernel
theorem dL_law_1048 : decode cL_law 1048 = .ok (.iadd, 1) := by decide +kernel
theorem dL_law_1049 : decode cL_law 1049 = .ok (.iaload, 1) := by decide +kernel
theorem dL_law_1050 : decode cL_law 1050 = .ok (.aload_n 0, 1) := by decide +kernel
theorem dL_law_1051 : decode cL_law 1051 = .ok (.iload 5, 2) := by decide +kernel
theorem dL_law_1053 : decode cL_law 1053 = .ok (.iconst 2, 1) := by decide +kernel
theorem dL_law_1054 : decode cL_law 1054 = .ok (.iadd, 1) := by decide +kernel
theorem dL_law_1055 : decode cL_law 1055 = .ok (.iaload, 1) := by decide +kernel
theorem dL_law_1056 : decode cL_law 1056 = .ok (.i2c, 1) := by decide +kernel
theorem dL_law_1057 : decode cL_law 1057 = .ok (.aload_n 0, 1) := by decide +kernel
theorem dL_law_1058 : decode cL_law 1058 = .ok (.iload 5, 2) := by decide +kernel
theorem dL_law_1060 : decode cL_law 1060 = .ok (.iconst 3, 1) := by decide +kernel
theorem dL_law_1061 : decode cL_law 1061 = .ok (.iadd, 1) := by decide +kernel
theorem dL_law_1062 : decode cL_law 1062 = .ok (.iaload, 1) := by decide +kernel
set_option maxRecDepth 20000 in
theorem ggL_law_X15_decide : GoodIn wsL_law wsX15_decide := goodIn_ca (goodIn_ca (goodIn_r _ [921, 181, 362, 240, 922, 923, 363, 364, 365, 5, 366, 247, 248, 249, 180, 250, 251, 244, 245, 246, 367, 368, 369, 370, 371, 372, 373, 374, 375, 376, 377, 378, 379, 380, 381, 382, 193, 572, 573, 574, 575, 576, 577, 578, 579, 580, 581, 582, 583, 584, 585, 586, 587, 588, 589, 590, 591, 592, 593, 594, 595, 596, 597, 598, 599, 600, 284, 285, 286, 601, 311, 312, 602, 603, 604, 605, 606, 607, 608, 609, 610, 611, 612, 613, 614, 615, 616, 617, 618, 619, 620, 621, 622, 623, 624, 625, 626, 627, 628, 629, 630, 631, 632, 633, 634, 635, 636, 637, 638, 639, 640, 641, 642, 643, 644, 645, 646, 647, 648, 649, 650, 651, 652, 653, 654, 924, 925, 926, 927, 928, 929, 930, 931, 499, 500, 501, 502, 503, 504, 505, 13, 14, 71, 506, 507, 508, 509, 510, 511, 512, 513, 514, 515, 516, 517, 518, 519, 520, 521, 522, 523, 524, 525, 526, 527, 528, 529, 530, 531, 532, 533, 388, 389, 243, 390, 261, 655, 656, 657, 658, 932, 933, 934, 935, 936, 937, 938, 939, 940, 941, 942, 943, 944, 945, 946, 947, 948, 949, 950, 951, 952, 953, 954, 955, 956, 957, 958, 959, 960, 961, 962, 963, 964, 965, 966, 967, 968, 442, 443, 444, 445, 446, 242, 259, 260, 262, 263, 264, 395, 447, 253, 254, 255, 256, 257, 258, 969, 970, 971, 972, 177, 973, 974, 975, 976, 977, 978, 979, 980, 981, 982, 983, 984, 985, 986, 987, 988, 989, 990, 991, 992, 993, 994, 995, 996, 997, 998, 999, 1000, 1001, 1002, 1003, 1004, 1005, 1006, 1007, 1008, 1009, 1010, 1011, 1012, 1013, 1014, 1015, 1016, 1017, 1018, 1019, 1020, 1021, 1022, 1023, 1024, 1025, 1026, 1854, 1855, 1856, 1857, 1858, 1859, 1860, 1861, 1862, 1863, 1864, 1865, 1866, 1867, 1868, 1869, 1870, 1871, 1872, 1873, 1874, 1958, 1959, 1960, 1961, 1962, 1963, 1964, 1965, 1966, 1967, 1968, 1969, 1955, 1956, 1957, 1979, 1980, 1981, 1982, 1970, 1971, 1972, 1973, 1974, 1975, 1976, 1977, 1978, 1983, 1984, 1985, 1986, 1987, 1988, 1989, 1990, 1991, 1992, 1993] (by decide +kernel) (by decide +kernel)) (goodIn_sub (fun _ h => List.mem_append_left _ (List.mem_append_left _ (List.mem_append_left _ (List.mem_append_left _ (List.mem_append_left _ (List.mem_append_left _ (List.mem_append_left _ (List.mem_append_right _ h)))))))) (by decide +kernel))) (goodIn_sub (fun _ h => List.mem_append_left _ (List.mem_append_right _ h)) (by decide +kernel))
set_option maxRecDepth 20000 in
theorem gL_law_X15_decide : GoodIn wsL_law (wsV RL 194 RX15 yX15_decide wsX15_decide) := goodIn_app (goodIn_of _ (by decide +kernel)) ggL_law_X15_decide
theorem dL_law_1063 : decode cL_law 1063 = .ok (.invokevirtual 194, 3) := by decide +kernel
theorem dL_law_1066 : decode cL_law 1066 = .ok (.istore 7, 2) := by decide +kernel
theorem dL_law_1068 : decode cL_law 1068 = .ok (.aload_n 2, 1) := by decide +kernel
theorem dL_law_1069 : decode cL_law 1069 = .ok (.invokevirtual 152, 3) := by decide +kernel
theorem dL_law_1072 : decode cL_law 1072 = .ok (.iload 6, 2) := by decide +kernel
theorem dL_law_1074 : decode cL_law 1074 = .ok (.if_icmp .eq 5, 3) := by decide +kernel
theorem dL_law_1079 : decode cL_law 1079 = .ok (.iload 6, 2) := by decide +kernel
theorem dL_law_1081 : decode cL_law 1081 = .ok (.ifCond .ne 22, 3) := by decide +kernel
theorem dL_law_1103 : decode cL_law 1103 = .ok (.goto 1675, 3) := by decide +kernel
theorem dL_law_1106 : decode cL_law 1106 = .ok (.aload_n 1, 1) := by decide +kernel
theorem dL_law_1107 : decode cL_law 1107 = .ok (.aload_n 0, 1) := by decide +kernel
theorem dL_law_1108 : decode cL_law 1108 = .ok (.iload 5, 2) := by decide +kernel
theorem dL_law_1110 : decode cL_law 1110 = .ok (.iconst 1, 1) := by decide +kernel
theorem dL_law_1111 : decode cL_law 1111 = .ok (.iadd, 1) := by decide +kernel
theorem dL_law_1112 : decode cL_law 1112 = .ok (.iaload, 1) := by decide +kernel
theorem dL_law_1113 : decode cL_law 1113 = .ok (.aload_n 3, 1) := by decide +kernel
set_option maxRecDepth 20000 in
theorem ggL_law_L_verdict : GoodIn wsL_law wsL_verdict := goodIn_ca (goodIn_ca (goodIn_r _ [1029, 324, 1030, 1031, 1032, 2, 1033, 330, 331, 332, 333, 334, 335, 17, 16, 1034, 1035, 1036, 120, 1037, 138, 1847, 1848, 1849, 1850, 1851, 1852, 1853, 1944, 1945, 1946, 1947, 1948, 1949, 1950, 1951, 1952, 1953, 1954] (by decide +kernel) (by decide +kernel)) (goodIn_sub (fun _ h => List.mem_append_left _ (List.mem_append_left _ (List.mem_append_left _ (List.mem_append_left _ (List.mem_append_left _ (List.mem_append_left _ (List.mem_append_left _ (List.mem_append_right _ h)))))))) (by decide +kernel))) (goodIn_sub (fun _ h => List.mem_append_left _ (List.mem_append_left _ (List.mem_append_left _ (List.mem_append_left _ (List.mem_append_right _ h))))) (by decide +kernel))
set_option maxRecDepth 20000 in
theorem gL_law_L_verdict : GoodIn wsL_law (va_wsS RL 195 yL_verdict wsL_verdict) := goodIn_app (goodIn_of _ (by decide +kernel)) ggL_law_L_verdict
theorem dL_law_1114 : decode cL_law 1114 = .ok (.invokestatic 195, 3) := by decide +kernel
theorem dL_law_1117 : decode cL_law 1117 = .ok (.istore 6, 2) := by decide +kernel
theorem dL_law_1119 : decode cL_law 1119 = .ok (.aload_n 2, 1) := by decide +kernel
theorem dL_law_1120 : decode cL_law 1120 = .ok (.aload_n 0, 1) := by decide +kernel
theorem dL_law_1121 : decode cL_law 1121 = .ok (.iload 5, 2) := by decide +kernel
theorem dL_law_1123 : decode cL_law 1123 = .ok (.iconst 1, 1) := by decide +kernel
theorem dL_law_1124 : decode cL_law 1124 = .ok (.iadd, 1) := by decide +kernel
theorem dL_law_1125 : decode cL_law 1125 = .ok (.iaload, 1) := by decide +kernel
set_option maxRecDepth 20000 in
theorem ggL_law_X15_verdict : GoodIn wsL_law wsX15_verdict := goodIn_r _ [1041, 181, 362, 363, 364, 365, 5, 366, 240, 247, 248, 249, 180, 250, 251, 244, 245, 246, 367, 368, 369, 370, 371, 372, 373, 374, 375, 376, 377, 378, 379, 380, 381, 382, 193, 1042, 1043, 1044, 243, 1045, 256, 1854, 1855, 1856, 1857, 1858, 1859, 1860, 1861, 1862, 1863, 1864, 1865, 1866, 1867, 1868, 1869, 1870, 1871, 1872, 1873, 1874, 1955, 1956, 1957, 1958, 1959, 1960, 1961, 1962, 1963, 1964, 1965, 1966, 1967, 1968, 1969] (by decide +kernel) (by decide +kernel)
set_option maxRecDepth 20000 in
theorem gL_law_X15_verdict : GoodIn wsL_law (wsV RL 197 RX15 yX15_verdict wsX15_verdict) := goodIn_app (goodIn_of _ (by decide +kernel)) ggL_law_X15_verdict
theorem dL_law_1126 : decode cL_law 1126 = .ok (.invokevirtual 197, 3) := by decide +kernel
theorem dL_law_1129 : decode cL_law 1129 = .ok (.istore 7, 2) := by decide +kernel
theorem dL_law_1131 : decode cL_law 1131 = .ok (.aload_n 2, 1) := by decide +kernel
theorem dL_law_1132 : decode cL_law 1132 = .ok (.invokevirtual 152, 3) := by decide +kernel
theorem dL_law_1135 : decode cL_law 1135 = .ok (.iload 6, 2) := by decide +kernel
theorem dL_law_1137 : decode cL_law 1137 = .ok (.if_icmp .eq 5, 3) := by decide +kernel
theorem dL_law_1142 : decode cL_law 1142 = .ok (.iload 6, 2) := by decide +kernel
theorem dL_law_1144 : decode cL_law 1144 = .ok (.ifCond .ne 15, 3) := by decide +kernel
theorem dL_law_1159 : decode cL_law 1159 = .ok (.goto 1619, 3) := by decide +kernel
theorem dL_law_1162 : decode cL_law 1162 = .ok (.aload_n 1, 1) := by decide +kernel
theorem dL_law_1163 : decode cL_law 1163 = .ok (.aload_n 0, 1) := by decide +kernel
theorem dL_law_1164 : decode cL_law 1164 = .ok (.iload 5, 2) := by decide +kernel
theorem dL_law_1166 : decode cL_law 1166 = .ok (.iconst 1, 1) := by decide +kernel
theorem dL_law_1167 : decode cL_law 1167 = .ok (.iadd, 1) := by decide +kernel
theorem dL_law_1168 : decode cL_law 1168 = .ok (.iaload, 1) := by decide +kernel
theorem dL_law_1169 : decode cL_law 1169 = .ok (.aload_n 0, 1) := by decide +kernel
theorem dL_law_1170 : decode cL_law 1170 = .ok (.iload 5, 2) := by decide +kernel
theorem dL_law_1172 : decode cL_law 1172 = .ok (.iconst 2, 1) := by decide +kernel
theorem dL_law_1173 : decode cL_law 1173 = .ok (.iadd, 1) := by decide +kernel
theorem dL_law_1174 : decode cL_law 1174 = .ok (.iaload, 1) := by decide +kernel
theorem dL_law_1175 : decode cL_law 1175 = .ok (.i2c, 1) := by decide +kernel
theorem dL_law_1176 : decode cL_law 1176 = .ok (.aload_n 3, 1) := by decide +kernel
set_option maxRecDepth 20000 in
theorem ggL_law_L_certificate : GoodIn wsL_law wsL_certificate := goodIn_ca (goodIn_ca (goodIn_ca (goodIn_ca (goodIn_r _ [1048, 324, 208, 404, 1049, 1050, 1051, 2, 1052, 1053, 1054, 1055, 330, 331, 332, 333, 334, 335, 17, 16, 214, 215, 216, 217, 218, 410, 411, 412, 413, 414, 1944, 1945, 1946, 1947, 1948, 1949, 1950, 1951, 1952, 1953, 1954, 1847, 1848, 1849, 1850, 1851, 1852, 1853] (by decide +kernel) (by decide +kernel)) (goodIn_sub (fun _ h => List.mem_append_left _ (List.mem_append_left _ (List.mem_append_left _ (List.mem_append_left _ (List.mem_append_left _ (List.mem_append_left _ (List.mem_append_left _ (List.mem_append_right _ h)))))))) (by decide +kernel))) (goodIn_sub (fun _ h => List.mem_append_left _ (List.mem_append_left _ (List.mem_append_left _ (List.mem_append_left _ (List.mem_append_right _ h))))) (by decide +kernel))) (goodIn_sub (fun _ h => List.mem_append_left _ (List.mem_append_left _ (List.mem_append_left _ (List.mem_append_left _ (List.mem_append_left _ (List.mem_append_left _ (List.mem_append_right _ h))))))) (by decide +kernel))) (goodIn_sub (fun _ h => List.mem_append_left _ (List.mem_append_left _ (List.mem_append_left _ (List.mem_append_right _ h)))) (by decide +kernel))
set_option maxRecDepth 20000 in
theorem gL_law_L_certificate : GoodIn wsL_law (va_wsS RL 198 yL_certificate wsL_certificate) := goodIn_app (goodIn_of _ (by decide +kernel)) ggL_law_L_certificate
theorem dL_law_1177 : decode cL_law 1177 = .ok (.invokestatic 198, 3) := by decide +kernel
theorem dL_law_1180 : decode cL_law 1180 = .ok (.istore 6, 2) := by decide +kernel
theorem dL_law_1182 : decode cL_law 1182 = .ok (.aload_n 2, 1) := by decide +kernel
theorem dL_law_1183 : decode cL_law 1183 = .ok (.aload_n 0, 1) := by decide +kernel
theorem dL_law_1184 : decode cL_law 1184 = .ok (.iload 5, 2) := by decide +kernel
theorem dL_law_1186 : decode cL_law 1186 = .ok (.iconst 1, 1) := by decide +kernel
theorem dL_law_1187 : decode cL_law 1187 = .ok (.iadd, 1) := by decide +kernel
theorem dL_law_1188 : decode cL_law 1188 = .ok (.iaload, 1) := by decide +kernel
theorem dL_law_1189 : decode cL_law 1189 = .ok (.aload_n 0, 1) := by decide +kernel
theorem dL_law_1190 : decode cL_law 1190 = .ok (.iload 5, 2) := by decide +kernel
theorem dL_law_1192 : decode cL_law 1192 = .ok (.iconst 2, 1) := by decide +kernel
theorem dL_law_1193 : decode cL_law 1193 = .ok (.iadd, 1) := by decide +kernel
theorem dL_law_1194 : decode cL_law 1194 = .ok (.iaload, 1) := by decide +kernel
theorem dL_law_1195 : decode cL_law 1195 = .ok (.i2c, 1) := by decide +kernel
set_option maxRecDepth 20000 in
theorem ggL_law_X15_certificate : GoodIn wsL_law wsX15_certificate := goodIn_r _ [1059, 181, 362, 240, 363, 364, 365, 5, 366, 247, 248, 249, 180, 250, 251, 244, 245, 246, 367, 368, 369, 370, 371, 372, 373, 374, 375, 376, 377, 378, 379, 380, 381, 382, 193, 1854, 1855, 1856, 1857, 1858, 1859, 1860, 1861, 1862, 1863, 1864, 1865, 1866, 1867, 1868, 1869, 1870, 1871, 1872, 1873, 1874, 1958, 1959, 1960, 1961, 1962, 1963, 1964, 1965, 1966, 1967, 1968, 1969, 1955, 1956, 1957] (by decide +kernel) (by decide +kernel)
set_option maxRecDepth 20000 in
theorem gL_law_X15_certificate : GoodIn wsL_law (wsV RL 200 RX15 yX15_certificate wsX15_certificate) := goodIn_app (goodIn_of _ (by decide +kernel)) ggL_law_X15_certificate
theorem dL_law_1196 : decode cL_law 1196 = .ok (.invokevirtual 200, 3) := by decide +kernel
theorem dL_law_1199 : decode cL_law 1199 = .ok (.istore 7, 2) := by decide +kernel
theorem dL_law_1201 : decode cL_law 1201 = .ok (.aload_n 2, 1) := by decide +kernel
theorem dL_law_1202 : decode cL_law 1202 = .ok (.invokevirtual 152, 3) := by decide +kernel
theorem dL_law_1205 : decode cL_law 1205 = .ok (.iload 6, 2) := by decide +kernel
theorem dL_law_1207 : decode cL_law 1207 = .ok (.if_icmp .eq 5, 3) := by decide +kernel
theorem dL_law_1212 : decode cL_law 1212 = .ok (.iload 6, 2) := by decide +kernel
theorem dL_law_1214 : decode cL_law 1214 = .ok (.ifCond .ne 15, 3) := by decide +kernel
theorem dL_law_1229 : decode cL_law 1229 = .ok (.goto 1549, 3) := by decide +kernel
theorem dL_law_1232 : decode cL_law 1232 = .ok (.aload_n 1, 1) := by decide +kernel
theorem dL_law_1233 : decode cL_law 1233 = .ok (.aload_n 0, 1) := by decide +kernel
theorem dL_law_1234 : decode cL_law 1234 = .ok (.iload 5, 2) := by decide +kernel
theorem dL_law_1236 : decode cL_law 1236 = .ok (.iconst 1, 1) := by decide +kernel
theorem dL_law_1237 : decode cL_law 1237 = .ok (.iadd, 1) := by decide +kernel
theorem dL_law_1238 : decode cL_law 1238 = .ok (.iaload, 1) := by decide +kernel
theorem dL_law_1239 : decode cL_law 1239 = .ok (.aload_n 0, 1) := by decide +kernel
theorem dL_law_1240 : decode cL_law 1240 = .ok (.iload 5, 2) := by decide +kernel
theorem dL_law_1242 : decode cL_law 1242 = .ok (.iconst 2, 1) := by decide +kernel
theorem dL_law_1243 : decode cL_law 1243 = .ok (.iadd, 1) := by decide +kernel
theorem dL_law_1244 : decode cL_law 1244 = .ok (.iaload, 1) := by decide +kernel
theorem dL_law_1245 : decode cL_law 1245 = .ok (.i2c, 1) := by decide +kernel
theorem dL_law_1246 : decode cL_law 1246 = .ok (.aload_n 0, 1) := by decide +kernel
theorem dL_law_1247 : decode cL_law 1247 = .ok (.iload 5, 2) := by decide +kernel
theorem dL_law_1249 : decode cL_law 1249 = .ok (.iconst 3, 1) := by decide +kernel
theorem dL_law_1250 : decode cL_law 1250 = .ok (.iadd, 1) := by decide +kernel
theorem dL_law_1251 : decode cL_law 1251 = .ok (.iaload, 1) := by decide +kernel
theorem dL_law_1252 : decode cL_law 1252 = .ok (.aload_n 3, 1) := by decide +kernel
set_option maxRecDepth 20000 in
theorem ggL_law_L_forge : GoodIn wsL_law wsL_forge := goodIn_ca (goodIn_ca (goodIn_ca (goodIn_ca (goodIn_r _ [1062, 324, 208, 404, 1063, 1064, 1065, 2, 1066, 1053, 1054, 1055, 330, 331, 332, 333, 334, 335, 17, 16, 214, 215, 216, 217, 218, 219, 220, 221, 410, 411, 412, 413, 414, 1944, 1945, 1946, 1947, 1948, 1949, 1950, 1951, 1952, 1953, 1954, 1847, 1848, 1849, 1850, 1851, 1852, 1853] (by decide +kernel) (by decide +kernel)) (goodIn_sub (fun _ h => List.mem_append_left _ (List.mem_append_left _ (List.mem_append_left _ (List.mem_append_left _ (List.mem_append_left _ (List.mem_append_left _ (List.mem_append_left _ (List.mem_append_right _ h)))))))) (by decide +kernel))) (goodIn_sub (fun _ h => List.mem_append_left _ (List.mem_append_left _ (List.mem_append_left _ (List.mem_append_left _ (List.mem_append_right _ h))))) (by decide +kernel))) (goodIn_sub (fun _ h => List.mem_append_left _ (List.mem_append_left _ (List.mem_append_left _ (List.mem_append_left _ (List.mem_append_left _ (List.mem_append_left _ (List.mem_append_right _ h))))))) (by decide +kernel))) (goodIn_sub (fun _ h => List.mem_append_left _ (List.mem_append_left _ (List.mem_append_left _ (List.mem_append_right _ h)))) (by decide +kernel))
set_option maxRecDepth 20000 in
theorem gL_law_L_forge : GoodIn wsL_law (va_wsS RL 201 yL_forge wsL_forge) := goodIn_app (goodIn_of _ (by decide +kernel)) ggL_law_L_forge
theorem dL_law_1253 : decode cL_law 1253 = .ok (.invokestatic 201, 3) := by decide +kernel
theorem dL_law_1256 : decode cL_law 1256 = .ok (.istore 6, 2) := by decide +kernel
theorem dL_law_1258 : decode cL_law 1258 = .ok (.aload_n 2, 1) := by decide +kernel
theorem dL_law_1259 : decode cL_law 1259 = .ok (.aload_n 0, 1) := by decide +kernel
theorem dL_law_1260 : decode cL_law 1260 = .ok (.iload 5, 2) := by decide +kernel
theorem dL_law_1262 : decode cL_law 1262 = .ok (.iconst 1, 1) := by decide +kernel
theorem dL_law_1263 : decode cL_law 1263 = .ok (.iadd, 1) := by decide +kernel
theorem dL_law_1264 : decode cL_law 1264 = .ok (.iaload, 1) := by decide +kernel
theorem dL_law_1265 : decode cL_law 1265 = .ok (.aload_n 0, 1) := by decide +kernel
theorem dL_law_1266 : decode cL_law 1266 = .ok (.iload 5, 2) := by decide +kernel
theorem dL_law_1268 : decode cL_law 1268 = .ok (.iconst 2, 1) := by decide +kernel
theorem dL_law_1269 : decode cL_law 1269 = .ok (.iadd, 1) := by decide +kernel
theorem dL_law_1270 : decode cL_law 1270 = .ok (.iaload, 1) := by decide +kernel
theorem dL_law_1271 : decode cL_law 1271 = .ok (.i2c, 1) := by decide +kernel
theorem dL_law_1272 : decode cL_law 1272 = .ok (.aload_n 0, 1) := by decide +kernel
theorem dL_law_1273 : decode cL_law 1273 = .ok (.iload 5, 2) := by decide +kernel
theorem dL_law_1275 : decode cL_law 1275 = .ok (.iconst 3, 1) := by decide +kernel
theorem dL_law_1276 : decode cL_law 1276 = .ok (.iadd, 1) := by decide +kernel
theorem dL_law_1277 : decode cL_law 1277 = .ok (.iaload, 1) := by decide +kernel
set_option maxRecDepth 20000 in
theorem ggL_law_X15_forge : GoodIn wsL_law wsX15_forge := goodIn_r _ [1070, 181, 362, 1071, 498, 240, 363, 364, 365, 5, 366, 247, 248, 249, 180, 250, 251, 244, 245, 246, 367, 368, 369, 370, 371, 372, 373, 374, 375, 376, 377, 378, 379, 380, 381, 382, 193, 1854, 1855, 1856, 1857, 1858, 1859, 1860, 1861, 1862, 1863, 1864, 1865, 1866, 1867, 1868, 1869, 1870, 1871, 1872, 1873, 1874, 1958, 1959, 1960, 1961, 1962, 1963, 1964, 1965, 1966, 1967, 1968, 1969, 1955, 1956, 1957] (by decide +kernel) (by decide +kernel)
set_option maxRecDepth 20000 in
theorem gL_law_X15_forge : GoodIn wsL_law (wsV RL 203 RX15 yX15_forge wsX15_forge) := goodIn_app (goodIn_of _ (by decide +kernel)) ggL_law_X15_forge
theorem dL_law_1278 : decode cL_law 1278 = .ok (.invokevirtual 203, 3) := by decide +kernel
theorem dL_law_1281 : decode cL_law 1281 = .ok (.istore 7, 2) := by decide +kernel
theorem dL_law_1283 : decode cL_law 1283 = .ok (.aload_n 2, 1) := by decide +kernel
theorem dL_law_1284 : decode cL_law 1284 = .ok (.invokevirtual 152, 3) := by decide +kernel
theorem dL_law_1287 : decode cL_law 1287 = .ok (.iload 6, 2) := by decide +kernel
theorem dL_law_1289 : decode cL_law 1289 = .ok (.if_icmp .eq 5, 3) := by decide +kernel
theorem dL_law_1294 : decode cL_law 1294 = .ok (.iload 6, 2) := by decide +kernel
theorem dL_law_1296 : decode cL_law 1296 = .ok (.ifCond .ne 15, 3) := by decide +kernel
theorem dL_law_1311 : decode cL_law 1311 = .ok (.goto 1467, 3) := by decide +kernel
theorem dL_law_1314 : decode cL_law 1314 = .ok (.aload_n 1, 1) := by decide +kernel
theorem dL_law_1315 : decode cL_law 1315 = .ok (.aload_n 0, 1) := by decide +kernel
theorem dL_law_1316 : decode cL_law 1316 = .ok (.iload 5, 2) := by decide +kernel
theorem dL_law_1318 : decode cL_law 1318 = .ok (.iconst 1, 1) := by decide +kernel
theorem dL_law_1319 : decode cL_law 1319 = .ok (.iadd, 1) := by decide +kernel
theorem dL_law_1320 : decode cL_law 1320 = .ok (.iaload, 1) := by decide +kernel
theorem dL_law_1321 : decode cL_law 1321 = .ok (.aload_n 3, 1) := by decide +kernel
set_option maxRecDepth 20000 in
theorem ggL_law_L_passes : GoodIn wsL_law wsL_passes := goodIn_ca (goodIn_ca (goodIn_r _ [1074, 324, 1075, 1076, 1077, 2, 1078, 21, 330, 331, 332, 333, 334, 335, 17, 16, 1079, 1080, 1081, 20, 1082, 794, 795, 796, 1083, 1084, 285, 1085, 52, 1086, 1087, 1088, 1089, 44, 784, 788, 459, 460, 43, 461, 462, 463, 464, 465, 72, 65, 66, 67, 68, 69, 70, 466, 467, 299, 468, 469, 470, 471, 472, 473, 474, 311, 312, 475, 284, 286, 476, 477, 478, 479, 480, 349, 350, 120, 351, 144, 145, 141, 481, 482, 483, 484, 485, 486, 487, 488, 489, 490, 491, 492, 493, 789, 542, 543, 544, 790, 565, 566, 567, 1090, 1091, 1092, 1093, 53, 1094, 1095, 826, 827, 828, 1096, 1097, 1098, 1099, 1100, 1101, 1102, 1103, 1104, 1105, 1106, 816, 817, 818, 819, 314, 315, 316, 1107, 843, 844, 845, 846, 847, 848, 51, 849, 89, 850, 851, 852, 853, 91, 90, 93, 92, 854, 855, 856, 857, 352, 353, 858, 859, 860, 861, 862, 863, 864, 728, 729, 865, 866, 867, 868, 869, 870, 871, 872, 873, 874, 875, 876, 877, 878, 879, 880, 881, 882, 883, 1108, 1109, 1110, 1111, 61, 787, 884, 885, 886, 60, 887, 109, 108, 110, 111, 112, 114, 113, 888, 889, 890, 891, 892, 893, 894, 895, 896, 897, 898, 899, 900, 901, 902, 903, 904, 905, 906, 907, 908, 909, 910, 911, 912, 913, 914, 915, 916, 917, 1847, 1848, 1849, 1850, 1851, 1852, 1853, 1944, 1945, 1946, 1947, 1948, 1949, 1950, 1951, 1952, 1953, 1954, 1875, 1876, 1877, 1878, 1879, 1880, 1908, 1909, 1910, 1911, 1912, 1913, 1914, 1924, 1925, 1926, 1927, 1928, 1937, 1938, 1939, 1940, 1941, 1942, 1943] (by decide +kernel) (by decide +kernel)) (goodIn_sub (fun _ h => List.mem_append_left _ (List.mem_append_left _ (List.mem_append_left _ (List.mem_append_left _ (List.mem_append_left _ (List.mem_append_left _ (List.mem_append_left _ (List.mem_append_right _ h)))))))) (by decide +kernel))) (goodIn_sub (fun _ h => List.mem_append_left _ (List.mem_append_left _ (List.mem_append_left _ (List.mem_append_left _ (List.mem_append_right _ h))))) (by decide +kernel))
set_option maxRecDepth 20000 in
theorem gL_law_L_passes : GoodIn wsL_law (va_wsS RL 204 yL_passes wsL_passes) := goodIn_app (goodIn_of _ (by decide +kernel)) ggL_law_L_passes
theorem dL_law_1322 : decode cL_law 1322 = .ok (.invokestatic 204, 3) := by decide +kernel
theorem dL_law_1325 : decode cL_law 1325 = .ok (.istore 6, 2) := by decide +kernel
theorem dL_law_1327 : decode cL_law 1327 = .ok (.aload_n 2, 1) := by decide +kernel
theorem dL_law_1328 : decode cL_law 1328 = .ok (.aload_n 0, 1) := by decide +kernel
theorem dL_law_1329 : decode cL_law 1329 = .ok (.iload 5, 2) := by decide +kernel
theorem dL_law_1331 : decode cL_law 1331 = .ok (.iconst 1, 1) := by decide +kernel
theorem dL_law_1332 : decode cL_law 1332 = .ok (.iadd, 1) := by decide +kernel
theorem dL_law_1333 : decode cL_law 1333 = .ok (.iaload, 1) := by decide +kernel
set_option maxRecDepth 20000 in
theorem ggL_law_X15_passes : GoodIn wsL_law wsX15_passes := goodIn_ca (goodIn_ca (goodIn_r _ [1115, 181, 362, 363, 364, 365, 5, 366, 240, 247, 248, 249, 180, 250, 251, 244, 245, 246, 367, 368, 369, 370, 371, 372, 373, 374, 375, 376, 377, 378, 379, 380, 381, 382, 193, 1116, 1117, 1118, 1119, 922, 923, 499, 500, 501, 1120, 1084, 285, 1085, 928, 929, 930, 931, 502, 503, 504, 505, 13, 14, 71, 506, 507, 508, 509, 510, 511, 512, 513, 514, 515, 516, 517, 518, 519, 520, 521, 522, 311, 312, 523, 524, 284, 286, 525, 526, 527, 528, 529, 530, 531, 532, 533, 388, 389, 243, 390, 261, 655, 656, 657, 658, 932, 933, 934, 935, 948, 940, 941, 942, 943, 944, 945, 946, 947, 949, 950, 951, 952, 442, 443, 444, 445, 446, 242, 259, 260, 262, 263, 264, 395, 447, 253, 254, 255, 256, 257, 258, 961, 962, 963, 964, 965, 966, 967, 968, 969, 970, 971, 972, 177, 973, 974, 975, 976, 977, 978, 979, 980, 981, 982, 983, 984, 985, 986, 987, 988, 989, 990, 991, 992, 993, 994, 995, 996, 997, 998, 999, 1000, 1001, 1002, 1003, 1004, 1005, 1006, 1007, 1008, 1009, 1010, 1011, 1012, 1013, 1014, 1015, 1016, 1017, 1018, 1019, 1020, 1021, 1022, 1023, 1024, 1025, 1026, 1854, 1855, 1856, 1857, 1858, 1859, 1860, 1861, 1862, 1863, 1864, 1865, 1866, 1867, 1868, 1869, 1870, 1871, 1872, 1873, 1874, 1955, 1956, 1957, 1958, 1959, 1960, 1961, 1962, 1963, 1964, 1965, 1966, 1967, 1968, 1969, 1970, 1971, 1972, 1973, 1974, 1975, 1976, 1977, 1978, 1983, 1984, 1985, 1986, 1987, 1988, 1989, 1990, 1991, 1992, 1993] (by decide +kernel) (by decide +kernel)) (goodIn_sub (fun _ h => List.mem_append_left _ (List.mem_append_left _ (List.mem_append_left _ (List.mem_append_left _ (List.mem_append_left _ (List.mem_append_left _ (List.mem_append_left _ (List.mem_append_right _ h)))))))) (by decide +kernel))) (goodIn_sub (fun _ h => List.mem_append_left _ (List.mem_append_right _ h)) (by decide +kernel))
set_option maxRecDepth 20000 in
theorem gL_law_X15_passes : GoodIn wsL_law (wsV RL 206 RX15 yX15_passes wsX15_passes) := goodIn_app (goodIn_of _ (by decide +kernel)) ggL_law_X15_passes
theorem dL_law_1334 : decode cL_law 1334 = .ok (.invokevirtual 206, 3) := by decide +kernel
theorem dL_law_1337 : decode cL_law 1337 = .ok (.istore 7, 2) := by decide +kernel
theorem dL_law_1339 : decode cL_law 1339 = .ok (.aload_n 2, 1) := by decide +kernel
theorem dL_law_1340 : decode cL_law 1340 = .ok (.invokevirtual 152, 3) := by decide +kernel
theorem dL_law_1343 : decode cL_law 1343 = .ok (.iload 6, 2) := by decide +kernel
theorem dL_law_1345 : decode cL_law 1345 = .ok (.if_icmp .eq 5, 3) := by decide +kernel
theorem dL_law_1350 : decode cL_law 1350 = .ok (.iload 6, 2) := by decide +kernel
theorem dL_law_1352 : decode cL_law 1352 = .ok (.ifCond .ne 22, 3) := by decide +kernel
theorem dL_law_1374 : decode cL_law 1374 = .ok (.goto 1404, 3) := by decide +kernel
theorem dL_law_1377 : decode cL_law 1377 = .ok (.aload_n 1, 1) := by decide +kernel
theorem dL_law_1378 : decode cL_law 1378 = .ok (.aload_n 0, 1) := by decide +kernel
theorem dL_law_1379 : decode cL_law 1379 = .ok (.iload 5, 2) := by decide +kernel
theorem dL_law_1381 : decode cL_law 1381 = .ok (.iconst 1, 1) := by decide +kernel
theorem dL_law_1382 : decode cL_law 1382 = .ok (.iadd, 1) := by decide +kernel
theorem dL_law_1383 : decode cL_law 1383 = .ok (.iaload, 1) := by decide +kernel
theorem dL_law_1384 : decode cL_law 1384 = .ok (.aload_n 0, 1) := by decide +kernel
theorem dL_law_1385 : decode cL_law 1385 = .ok (.iload 5, 2) := by decide +kernel
theorem dL_law_1387 : decode cL_law 1387 = .ok (.iconst 2, 1) := by decide +kernel
theorem dL_law_1388 : decode cL_law 1388 = .ok (.iadd, 1) := by decide +kernel
theorem dL_law_1389 : decode cL_law 1389 = .ok (.iaload, 1) := by decide +kernel
theorem dL_law_1390 : decode cL_law 1390 = .ok (.aload_n 3, 1) := by decide +kernel
set_option maxRecDepth 20000 in
theorem ggL_law_L_ways : GoodIn wsL_law wsL_ways := goodIn_ca (goodIn_ca (goodIn_ca (goodIn_r _ [1123, 324, 208, 1124, 1125, 1126, 2, 1127, 21, 1128, 330, 331, 332, 333, 334, 335, 17, 16, 219, 220, 221, 214, 215, 216, 217, 218, 1129, 1130, 1131, 51, 1132, 89, 93, 850, 851, 852, 853, 91, 90, 92, 854, 855, 856, 467, 299, 468, 857, 349, 350, 120, 351, 144, 145, 141, 352, 353, 858, 859, 860, 861, 862, 863, 864, 728, 729, 865, 866, 867, 868, 869, 482, 483, 870, 492, 493, 871, 872, 873, 874, 875, 485, 486, 1847, 1848, 1849, 1850, 1851, 1852, 1853, 1875, 1876, 1877, 1878, 1879, 1880, 1924, 1925, 1926, 1927, 1928, 1944, 1945, 1946, 1947, 1948, 1949, 1950, 1951, 1952, 1953, 1954] (by decide +kernel) (by decide +kernel)) (goodIn_sub (fun _ h => List.mem_append_left _ (List.mem_append_left _ (List.mem_append_left _ (List.mem_append_left _ (List.mem_append_left _ (List.mem_append_left _ (List.mem_append_left _ (List.mem_append_right _ h)))))))) (by decide +kernel))) (goodIn_sub (fun _ h => List.mem_append_left _ (List.mem_append_left _ (List.mem_append_left _ (List.mem_append_left _ (List.mem_append_right _ h))))) (by decide +kernel))) (goodIn_sub (fun _ h => List.mem_append_left _ (List.mem_append_left _ (List.mem_append_left _ (List.mem_append_left _ (List.mem_append_left _ (List.mem_append_left _ (List.mem_append_right _ h))))))) (by decide +kernel))
set_option maxRecDepth 20000 in
theorem gL_law_L_ways : GoodIn wsL_law (va_wsS RL 207 yL_ways wsL_ways) := goodIn_app (goodIn_of _ (by decide +kernel)) ggL_law_L_ways
theorem dL_law_1391 : decode cL_law 1391 = .ok (.invokestatic 207, 3) := by decide +kernel
theorem dL_law_1394 : decode cL_law 1394 = .ok (.istore 6, 2) := by decide +kernel
theorem dL_law_1396 : decode cL_law 1396 = .ok (.aload_n 2, 1) := by decide +kernel
theorem dL_law_1397 : decode cL_law 1397 = .ok (.aload_n 0, 1) := by decide +kernel
theorem dL_law_1398 : decode cL_law 1398 = .ok (.iload 5, 2) := by decide +kernel
theorem dL_law_1400 : decode cL_law 1400 = .ok (.iconst 1, 1) := by decide +kernel
theorem dL_law_1401 : decode cL_law 1401 = .ok (.iadd, 1) := by decide +kernel
theorem dL_law_1402 : decode cL_law 1402 = .ok (.iaload, 1) := by decide +kernel
theorem dL_law_1403 : decode cL_law 1403 = .ok (.aload_n 0, 1) := by decide +kernel
theorem dL_law_1404 : decode cL_law 1404 = .ok (.iload 5, 2) := by decide +kernel
theorem dL_law_1406 : decode cL_law 1406 = .ok (.iconst 2, 1) := by decide +kernel
theorem dL_law_1407 : decode cL_law 1407 = .ok (.iadd, 1) := by decide +kernel
theorem dL_law_1408 : decode cL_law 1408 = .ok (.iaload, 1) := by decide +kernel
set_option maxRecDepth 20000 in
theorem ggL_law_X15_ways : GoodIn wsL_law wsX15_ways := goodIn_ca (goodIn_ca (goodIn_r _ [1136, 239, 181, 362, 177, 363, 364, 365, 5, 366, 240, 247, 248, 249, 180, 250, 251, 244, 245, 246, 383, 384, 385, 386, 367, 368, 369, 370, 371, 372, 373, 374, 375, 376, 377, 378, 379, 380, 381, 382, 193, 975, 976, 977, 978, 973, 974, 1137, 1138, 1139, 1140, 1854, 1855, 1856, 1857, 1858, 1859, 1860, 1861, 1862, 1863, 1864, 1865, 1866, 1867, 1868, 1869, 1870, 1871, 1872, 1873, 1874, 1958, 1959, 1960, 1961, 1962, 1963, 1964, 1965, 1966, 1967, 1968, 1969, 1955, 1956, 1957] (by decide +kernel) (by decide +kernel)) (goodIn_sub (fun _ h => List.mem_append_left _ (List.mem_append_left _ (List.mem_append_left _ (List.mem_append_left _ (List.mem_append_left _ (List.mem_append_left _ (List.mem_append_left _ (List.mem_append_right _ h)))))))) (by decide +kernel))) (goodIn_sub (fun _ h => List.mem_append_left _ (List.mem_append_right _ h)) (by decide +kernel))
set_option maxRecDepth 20000 in
theorem gL_law_X15_ways : GoodIn wsL_law (wsV RL 209 RX15 yX15_ways wsX15_ways) := goodIn_app (goodIn_of _ (by decide +kernel)) ggL_law_X15_ways
theorem dL_law_1409 : decode cL_law 1409 = .ok (.invokevirtual 209, 3) := by decide +kernel
theorem dL_law_1412 : decode cL_law 1412 = .ok (.istore 7, 2) := by decide +kernel
theorem dL_law_1414 : decode cL_law 1414 = .ok (.aload_n 2, 1) := by decide +kernel
theorem dL_law_1415 : decode cL_law 1415 = .ok (.invokevirtual 152, 3) := by decide +kernel
theorem dL_law_1418 : decode cL_law 1418 = .ok (.iload 6, 2) := by decide +kernel
theorem dL_law_1420 : decode cL_law 1420 = .ok (.if_icmp .eq 5, 3) := by decide +kernel
theorem dL_law_1425 : decode cL_law 1425 = .ok (.iload 6, 2) := by decide +kernel
theorem dL_law_1427 : decode cL_law 1427 = .ok (.ifCond .ne 15, 3) := by decide +kernel
theorem dL_law_1442 : decode cL_law 1442 = .ok (.goto 1336, 3) := by decide +kernel
theorem dL_law_1445 : decode cL_law 1445 = .ok (.aload_n 1, 1) := by decide +kernel
theorem dL_law_1446 : decode cL_law 1446 = .ok (.aload_n 0, 1) := by decide +kernel
theorem dL_law_1447 : decode cL_law 1447 = .ok (.iload 5, 2) := by decide +kernel
theorem dL_law_1449 : decode cL_law 1449 = .ok (.iconst 1, 1) := by decide +kernel
theorem dL_law_1450 : decode cL_law 1450 = .ok (.iadd, 1) := by decide +kernel
theorem dL_law_1451 : decode cL_law 1451 = .ok (.iaload, 1) := by decide +kernel
theorem dL_law_1452 : decode cL_law 1452 = .ok (.aload_n 0, 1) := by decide +kernel
theorem dL_law_1453 : decode cL_law 1453 = .ok (.iload 5, 2) := by decide +kernel
theorem dL_law_1455 : decode cL_law 1455 = .ok (.iconst 2, 1) := by decide +kernel
theorem dL_law_1456 : decode cL_law 1456 = .ok (.iadd, 1) := by decide +kernel
theorem dL_law_1457 : decode cL_law 1457 = .ok (.iaload, 1) := by decide +kernel
theorem dL_law_1458 : decode cL_law 1458 = .ok (.aload_n 0, 1) := by decide +kernel
theorem dL_law_1459 : decode cL_law 1459 = .ok (.iload 5, 2) := by decide +kernel
theorem dL_law_1461 : decode cL_law 1461 = .ok (.iconst 3, 1) := by decide +kernel
theorem dL_law_1462 : decode cL_law 1462 = .ok (.iadd, 1) := by decide +kernel
theorem dL_law_1463 : decode cL_law 1463 = .ok (.iaload, 1) := by decide +kernel
theorem dL_law_1464 : decode cL_law 1464 = .ok (.i2c, 1) := by decide +kernel
theorem dL_law_1465 : decode cL_law 1465 = .ok (.aload_n 3, 1) := by decide +kernel
set_option maxRecDepth 20000 in
theorem ggL_law_L_listed : GoodIn wsL_law wsL_listed := goodIn_ca (goodIn_ca (goodIn_r _ [1143, 208, 1144, 1145, 1146, 2, 1147, 25, 21, 1148, 1149, 1150, 219, 220, 221, 214, 215, 216, 217, 218, 1151, 1152, 1153, 24, 1154, 127, 128, 122, 123, 124, 125, 126, 1155, 1156, 1157, 1158, 129, 1159, 1160, 1161, 1162, 1163, 311, 285, 312, 1164, 284, 286, 1165, 459, 460, 43, 461, 462, 463, 464, 465, 72, 65, 66, 67, 68, 69, 70, 466, 467, 299, 468, 469, 470, 471, 472, 473, 474, 475, 476, 477, 478, 479, 480, 349, 350, 120, 351, 144, 145, 141, 481, 482, 483, 484, 485, 486, 487, 488, 489, 490, 491, 492, 493, 1166, 542, 543, 544, 1167, 798, 799, 47, 800, 81, 76, 77, 801, 802, 803, 804, 79, 82, 83, 84, 805, 806, 807, 808, 352, 353, 809, 810, 811, 812, 813, 814, 80, 815, 816, 817, 818, 819, 314, 315, 316, 728, 729, 820, 821, 822, 823, 824, 825, 826, 827, 828, 1168, 830, 831, 832, 833, 834, 835, 836, 85, 837, 838, 839, 840, 841, 842, 843, 844, 845, 1169, 1170, 1171, 1172, 1173, 121, 1174, 565, 566, 567, 1175, 434, 435, 436, 348, 437, 344, 345, 346, 137, 347, 337, 338, 339, 1176, 1177, 341, 342, 1178, 1179, 1180, 1181, 1182, 1847, 1848, 1849, 1850, 1851, 1852, 1853, 1881, 1882, 1883, 1884, 1885, 1886, 1887, 1888, 1889, 1875, 1876, 1877, 1878, 1879, 1880, 1944, 1945, 1946, 1947, 1948, 1949, 1950, 1951, 1952, 1953, 1954, 1908, 1909, 1910, 1911, 1912, 1913, 1914, 1915, 1916, 1917, 1918, 1919, 1920, 1921, 1922, 1923] (by decide +kernel) (by decide +kernel)) (goodIn_sub (fun _ h => List.mem_append_left _ (List.mem_append_left _ (List.mem_append_left _ (List.mem_append_left _ (List.mem_append_left _ (List.mem_append_left _ (List.mem_append_left _ (List.mem_append_right _ h)))))))) (by decide +kernel))) (goodIn_sub (fun _ h => List.mem_append_left _ (List.mem_append_left _ (List.mem_append_left _ (List.mem_append_left _ (List.mem_append_left _ (List.mem_append_left _ (List.mem_append_right _ h))))))) (by decide +kernel))
set_option maxRecDepth 20000 in
theorem gL_law_L_listed : GoodIn wsL_law (va_wsS RL 210 yL_listed wsL_listed) := goodIn_app (goodIn_of _ (by decide +kernel)) ggL_law_L_listed
theorem dL_law_1466 : decode cL_law 1466 = .ok (.invokestatic 210, 3) := by decide +kernel
theorem dL_law_1469 : decode cL_law 1469 = .ok (.istore 6, 2) := by decide +kernel
theorem dL_law_1471 : decode cL_law 1471 = .ok (.aload_n 2, 1) := by decide +kernel
theorem dL_law_1472 : decode cL_law 1472 = .ok (.aload_n 0, 1) := by decide +kernel
theorem dL_law_1473 : decode cL_law 1473 = .ok (.iload 5, 2) := by decide +kernel
theorem dL_law_1475 : decode cL_law 1475 = .ok (.iconst 1, 1) := by decide +kernel
theorem dL_law_1476 : decode cL_law 1476 = .ok (.iadd, 1) := by decide +kernel
theorem dL_law_1477 : decode cL_law 1477 = .ok (.iaload, 1) := by decide +kernel
theorem dL_law_1478 : decode cL_law 1478 = .ok (.aload_n 0, 1) := by decide +kernel
theorem dL_law_1479 : decode cL_law 1479 = .ok (.iload 5, 2) := by decide +kernel
theorem dL_law_1481 : decode cL_law 1481 = .ok (.iconst 2, 1) := by decide +kernel
theorem dL_law_1482 : decode cL_law 1482 = .ok (.iadd, 1) := by decide +kernel
theorem dL_law_1483 : decode cL_law 1483 = .ok (.iaload, 1) := by decide +kernel
theorem dL_law_1484 : decode cL_law 1484 = .ok (.aload_n 0, 1) := by decide +kernel
theorem dL_law_1485 : decode cL_law 1485 = .ok (.iload 5, 2) := by decide +kernel
theorem dL_law_1487 : decode cL_law 1487 = .ok (.iconst 3, 1) := by decide +kernel
theorem dL_law_1488 : decode cL_law 1488 = .ok (.iadd, 1) := by decide +kernel
theorem dL_law_1489 : decode cL_law 1489 = .ok (.iaload, 1) := by decide +kernel
theorem dL_law_1490 : decode cL_law 1490 = .ok (.i2c, 1) := by decide +kernel
set_option maxRecDepth 20000 in
theorem ggL_law_X15_listed : GoodIn wsL_law wsX15_listed := goodIn_ca (goodIn_ca (goodIn_r _ [1186, 240, 1187, 1188, 1189, 1190, 1191, 1192, 1193, 5, 1194, 238, 1195, 244, 245, 246, 572, 573, 574, 575, 576, 577, 578, 579, 580, 581, 582, 583, 584, 585, 586, 587, 588, 589, 590, 591, 592, 593, 594, 595, 596, 597, 598, 599, 600, 284, 285, 286, 601, 311, 312, 602, 603, 604, 605, 606, 607, 608, 609, 610, 611, 612, 613, 614, 615, 616, 617, 618, 619, 620, 621, 622, 623, 624, 625, 626, 627, 628, 629, 377, 630, 631, 632, 633, 634, 635, 636, 637, 638, 639, 640, 641, 642, 643, 644, 645, 646, 647, 648, 649, 650, 651, 652, 653, 654, 1196, 1197, 1198, 1199, 1200, 241, 242, 243, 252, 253, 254, 255, 13, 14, 256, 257, 258, 259, 260, 261, 71, 262, 263, 264, 1201, 1202, 1203, 1204, 499, 500, 501, 983, 964, 502, 503, 504, 505, 506, 507, 508, 509, 510, 511, 512, 513, 514, 515, 516, 517, 518, 519, 520, 521, 522, 523, 524, 525, 526, 527, 528, 529, 530, 531, 532, 533, 388, 389, 390, 936, 937, 938, 939, 940, 941, 942, 943, 944, 945, 946, 947, 948, 949, 950, 951, 952, 932, 933, 934, 935, 922, 923, 953, 954, 955, 956, 957, 958, 959, 960, 961, 962, 963, 965, 966, 967, 968, 442, 443, 444, 445, 446, 395, 447, 655, 656, 657, 658, 1205, 391, 392, 393, 394, 396, 397, 398, 399, 400, 419, 420, 421, 422, 1854, 1855, 1856, 1857, 1858, 1859, 1860, 1861, 1862, 1863, 1864, 1865, 1866, 1867, 1868, 1869, 1870, 1871, 1872, 1873, 1874, 1979, 1980, 1981, 1982, 1958, 1959, 1960, 1961, 1962, 1963, 1964, 1965, 1966, 1967, 1968, 1969, 1970, 1971, 1972, 1973, 1974, 1975, 1976, 1977, 1978] (by decide +kernel) (by decide +kernel)) (goodIn_sub (fun _ h => List.mem_append_left _ (List.mem_append_left _ (List.mem_append_left _ (List.mem_append_left _ (List.mem_append_left _ (List.mem_append_left _ (List.mem_append_left _ (List.mem_append_right _ h)))))))) (by decide +kernel))) (goodIn_sub (fun _ h => List.mem_append_left _ (List.mem_append_right _ h)) (by decide +kernel))
set_option maxRecDepth 20000 in
theorem gL_law_X15_listed : GoodIn wsL_law (wsV RL 213 RX15 yX15_listed wsX15_listed) := goodIn_app (goodIn_of _ (by decide +kernel)) ggL_law_X15_listed
theorem dL_law_1491 : decode cL_law 1491 = .ok (.invokevirtual 213, 3) := by decide +kernel
theorem dL_law_1494 : decode cL_law 1494 = .ok (.istore 7, 2) := by decide +kernel
theorem dL_law_1496 : decode cL_law 1496 = .ok (.aload_n 2, 1) := by decide +kernel
theorem dL_law_1497 : decode cL_law 1497 = .ok (.invokevirtual 152, 3) := by decide +kernel
theorem dL_law_1500 : decode cL_law 1500 = .ok (.iload 6, 2) := by decide +kernel
theorem dL_law_1502 : decode cL_law 1502 = .ok (.if_icmp .eq 5, 3) := by decide +kernel
theorem dL_law_1507 : decode cL_law 1507 = .ok (.iload 6, 2) := by decide +kernel
theorem dL_law_1509 : decode cL_law 1509 = .ok (.ifCond .ne 15, 3) := by decide +kernel
theorem dL_law_1512 : decode cL_law 1512 = .ok (.aload_n 3, 1) := by decide +kernel
theorem dL_law_1513 : decode cL_law 1513 = .ok (.iconst 0, 1) := by decide +kernel
theorem dL_law_1514 : decode cL_law 1514 = .ok (.laload, 1) := by decide +kernel
theorem dL_law_1515 : decode cL_law 1515 = .ok (.iload 7, 2) := by decide +kernel
theorem dL_law_1517 : decode cL_law 1517 = .ok (.i2l, 1) := by decide +kernel
theorem dL_law_1518 : decode cL_law 1518 = .ok (.lcmp, 1) := by decide +kernel
theorem dL_law_1519 : decode cL_law 1519 = .ok (.ifCond .eq 5, 3) := by decide +kernel
theorem dL_law_1524 : decode cL_law 1524 = .ok (.goto 1254, 3) := by decide +kernel
theorem dL_law_1527 : decode cL_law 1527 = .ok (.aload_n 1, 1) := by decide +kernel
theorem dL_law_1528 : decode cL_law 1528 = .ok (.aload_n 0, 1) := by decide +kernel
theorem dL_law_1529 : decode cL_law 1529 = .ok (.iload 5, 2) := by decide +kernel
theorem dL_law_1531 : decode cL_law 1531 = .ok (.iconst 1, 1) := by decide +kernel
theorem dL_law_1532 : decode cL_law 1532 = .ok (.iadd, 1) := by decide +kernel
theorem dL_law_1533 : decode cL_law 1533 = .ok (.iaload, 1) := by decide +kernel
theorem dL_law_1534 : decode cL_law 1534 = .ok (.aload_n 0, 1) := by decide +kernel
theorem dL_law_1535 : decode cL_law 1535 = .ok (.iload 5, 2) := by decide +kernel
theorem dL_law_1537 : decode cL_law 1537 = .ok (.iconst 2, 1) := by decide +kernel
theorem dL_law_1538 : decode cL_law 1538 = .ok (.iadd, 1) := by decide +kernel
theorem dL_law_1539 : decode cL_law 1539 = .ok (.iaload, 1) := by decide +kernel
theorem dL_law_1540 : decode cL_law 1540 = .ok (.aload_n 3, 1) := by decide +kernel
set_option maxRecDepth 20000 in
theorem ggL_law_L_champion : GoodIn wsL_law wsL_champion := goodIn_ca (goodIn_ca (goodIn_ca (goodIn_r _ [1208, 208, 209, 1209, 1210, 1211, 2, 1212, 25, 21, 15, 119, 120, 1213, 1148, 1149, 1150, 219, 220, 221, 214, 215, 216, 217, 218, 222, 223, 224, 225, 226, 227, 17, 1151, 1152, 1153, 24, 1154, 127, 128, 122, 123, 124, 125, 126, 1155, 1156, 1157, 1158, 129, 1159, 1160, 1161, 1162, 1163, 311, 285, 312, 1164, 284, 286, 1165, 459, 460, 43, 461, 462, 463, 464, 465, 72, 65, 66, 67, 68, 69, 70, 466, 467, 299, 468, 469, 470, 471, 472, 473, 474, 475, 476, 477, 478, 479, 480, 349, 350, 351, 144, 145, 141, 481, 482, 483, 484, 485, 486, 487, 488, 489, 490, 491, 492, 493, 1166, 542, 543, 544, 1167, 798, 799, 47, 800, 81, 76, 77, 801, 802, 803, 804, 79, 82, 83, 84, 805, 806, 807, 808, 352, 353, 809, 810, 811, 812, 813, 814, 80, 815, 816, 817, 818, 819, 314, 315, 316, 728, 729, 820, 821, 822, 823, 824, 825, 826, 827, 828, 1168, 830, 831, 832, 833, 834, 835, 836, 85, 837, 838, 839, 840, 841, 842, 843, 844, 845, 1169, 1170, 1171, 1172, 1173, 121, 1174, 565, 566, 567, 1175, 434, 435, 436, 348, 437, 344, 345, 346, 137, 347, 337, 338, 339, 1176, 1177, 341, 342, 1178, 228, 131, 132, 133, 13, 14, 134, 42, 135, 136, 138, 139, 140, 71, 142, 143, 62, 63, 64, 433, 229, 230, 231, 232, 16, 1847, 1848, 1849, 1850, 1851, 1852, 1853, 1944, 1945, 1946, 1947, 1948, 1949, 1950, 1951, 1952, 1953, 1954, 1881, 1882, 1883, 1884, 1885, 1886, 1887, 1888, 1889, 1875, 1876, 1877, 1878, 1879, 1880, 1908, 1909, 1910, 1911, 1912, 1913, 1914, 1915, 1916, 1917, 1918, 1919, 1920, 1921, 1922, 1923] (by decide +kernel) (by decide +kernel)) (goodIn_sub (fun _ h => List.mem_append_left _ (List.mem_append_left _ (List.mem_append_left _ (List.mem_append_left _ (List.mem_append_left _ (List.mem_append_left _ (List.mem_append_left _ (List.mem_append_right _ h)))))))) (by decide +kernel))) (goodIn_sub (fun _ h => List.mem_append_left _ (List.mem_append_left _ (List.mem_append_left _ (List.mem_append_left _ (List.mem_append_left _ (List.mem_append_left _ (List.mem_append_right _ h))))))) (by decide +kernel))) (goodIn_sub (fun _ h => List.mem_append_left _ (List.mem_append_left _ (List.mem_append_left _ (List.mem_append_left _ (List.mem_append_left _ (List.mem_append_right _ h)))))) (by decide +kernel))
set_option maxRecDepth 20000 in
theorem gL_law_L_champion : GoodIn wsL_law (va_wsS RL 214 yL_champion wsL_champion) := goodIn_app (goodIn_of _ (by decide +kernel)) ggL_law_L_champion
theorem dL_law_1541 : decode cL_law 1541 = .ok (.invokestatic 214, 3) := by decide +kernel
theorem dL_law_1544 : decode cL_law 1544 = .ok (.istore 6, 2) := by decide +kernel
theorem dL_law_1546 : decode cL_law 1546 = .ok (.aload_n 2, 1) := by decide +kernel
theorem dL_law_1547 : decode cL_law 1547 = .ok (.aload_n 0, 1) := by decide +kernel
theorem dL_law_1548 : decode cL_law 1548 = .ok (.iload 5, 2) := by decide +kernel
theorem dL_law_1550 : decode cL_law 1550 = .ok (.iconst 1, 1) := by decide +kernel
theorem dL_law_1551 : decode cL_law 1551 = .ok (.iadd, 1) := by decide +kernel
theorem dL_law_1552 : decode cL_law 1552 = .ok (.iaload, 1) := by decide +kernel
theorem dL_law_1553 : decode cL_law 1553 = .ok (.aload_n 0, 1) := by decide +kernel
theorem dL_law_1554 : decode cL_law 1554 = .ok (.iload 5, 2) := by decide +kernel
theorem dL_law_1556 : decode cL_law 1556 = .ok (.iconst 2, 1) := by decide +kernel
theorem dL_law_1557 : decode cL_law 1557 = .ok (.iadd, 1) := by decide +kernel
theorem dL_law_1558 : decode cL_law 1558 = .ok (.iaload, 1) := by decide +kernel
set_option maxRecDepth 20000 in
theorem ggL_law_X15_champion : GoodIn wsL_law wsX15_champion := goodIn_ca (goodIn_ca (goodIn_r _ [1217, 181, 240, 1200, 1192, 1193, 5, 1194, 238, 1195, 244, 245, 246, 247, 248, 249, 180, 250, 251, 1196, 1197, 1198, 1199, 1187, 1188, 1189, 1190, 1191, 241, 242, 243, 252, 253, 254, 255, 13, 14, 256, 257, 258, 259, 260, 261, 71, 262, 263, 264, 1201, 1202, 1203, 1204, 499, 500, 501, 983, 284, 285, 286, 964, 311, 312, 502, 503, 504, 505, 506, 507, 508, 509, 510, 511, 512, 513, 514, 515, 516, 517, 518, 519, 520, 521, 522, 523, 524, 525, 526, 527, 528, 529, 530, 531, 532, 533, 388, 389, 390, 936, 937, 938, 939, 940, 941, 942, 943, 944, 945, 946, 947, 948, 949, 950, 951, 952, 932, 933, 934, 935, 922, 923, 953, 954, 955, 956, 957, 958, 959, 960, 961, 962, 963, 965, 966, 967, 968, 442, 443, 444, 445, 446, 395, 447, 655, 656, 657, 658, 1205, 391, 392, 393, 394, 396, 397, 398, 399, 400, 419, 420, 421, 422, 265, 266, 267, 268, 269, 270, 193, 271, 272, 273, 274, 275, 276, 277, 278, 279, 280, 281, 282, 192, 283, 287, 288, 289, 290, 291, 292, 293, 294, 295, 296, 297, 298, 299, 300, 301, 302, 303, 304, 305, 306, 307, 308, 309, 310, 313, 314, 315, 316, 1854, 1855, 1856, 1857, 1858, 1859, 1860, 1861, 1862, 1863, 1864, 1865, 1866, 1867, 1868, 1869, 1870, 1871, 1872, 1873, 1874, 1955, 1956, 1957, 1958, 1959, 1960, 1961, 1962, 1963, 1964, 1965, 1966, 1967, 1968, 1969, 1970, 1971, 1972, 1973, 1974, 1975, 1976, 1977, 1978] (by decide +kernel) (by decide +kernel)) (goodIn_sub (fun _ h => List.mem_append_left _ (List.mem_append_left _ (List.mem_append_left _ (List.mem_append_left _ (List.mem_append_left _ (List.mem_append_left _ (List.mem_append_left _ (List.mem_append_right _ h)))))))) (by decide +kernel))) (goodIn_sub (fun _ h => List.mem_append_left _ (List.mem_append_right _ h)) (by decide +kernel))
set_option maxRecDepth 20000 in
theorem gL_law_X15_champion : GoodIn wsL_law (wsV RL 216 RX15 yX15_champion wsX15_champion) := goodIn_app (goodIn_of _ (by decide +kernel)) ggL_law_X15_champion
theorem dL_law_1559 : decode cL_law 1559 = .ok (.invokevirtual 216, 3) := by decide +kernel
theorem dL_law_1562 : decode cL_law 1562 = .ok (.istore 7, 2) := by decide +kernel
theorem dL_law_1564 : decode cL_law 1564 = .ok (.aload_n 2, 1) := by decide +kernel
theorem dL_law_1565 : decode cL_law 1565 = .ok (.invokevirtual 152, 3) := by decide +kernel
theorem dL_law_1568 : decode cL_law 1568 = .ok (.iload 6, 2) := by decide +kernel
theorem dL_law_1570 : decode cL_law 1570 = .ok (.if_icmp .eq 5, 3) := by decide +kernel
theorem dL_law_1575 : decode cL_law 1575 = .ok (.iload 6, 2) := by decide +kernel
theorem dL_law_1577 : decode cL_law 1577 = .ok (.ifCond .ne 15, 3) := by decide +kernel
theorem dL_law_1580 : decode cL_law 1580 = .ok (.aload_n 3, 1) := by decide +kernel
theorem dL_law_1581 : decode cL_law 1581 = .ok (.iconst 0, 1) := by decide +kernel
theorem dL_law_1582 : decode cL_law 1582 = .ok (.laload, 1) := by decide +kernel
theorem dL_law_1583 : decode cL_law 1583 = .ok (.iload 7, 2) := by decide +kernel
theorem dL_law_1585 : decode cL_law 1585 = .ok (.i2l, 1) := by decide +kernel
theorem dL_law_1586 : decode cL_law 1586 = .ok (.lcmp, 1) := by decide +kernel
theorem dL_law_1587 : decode cL_law 1587 = .ok (.ifCond .eq 5, 3) := by decide +kernel
theorem dL_law_1592 : decode cL_law 1592 = .ok (.goto 1186, 3) := by decide +kernel
theorem dL_law_1595 : decode cL_law 1595 = .ok (.aload_n 1, 1) := by decide +kernel
theorem dL_law_1596 : decode cL_law 1596 = .ok (.aload_n 0, 1) := by decide +kernel
theorem dL_law_1597 : decode cL_law 1597 = .ok (.iload 5, 2) := by decide +kernel
theorem dL_law_1599 : decode cL_law 1599 = .ok (.iconst 1, 1) := by decide +kernel
theorem dL_law_1600 : decode cL_law 1600 = .ok (.iadd, 1) := by decide +kernel
theorem dL_law_1601 : decode cL_law 1601 = .ok (.iaload, 1) := by decide +kernel
theorem dL_law_1602 : decode cL_law 1602 = .ok (.aload_n 0, 1) := by decide +kernel
theorem dL_law_1603 : decode cL_law 1603 = .ok (.iload 5, 2) := by decide +kernel
theorem dL_law_1605 : decode cL_law 1605 = .ok (.iconst 2, 1) := by decide +kernel
theorem dL_law_1606 : decode cL_law 1606 = .ok (.iadd, 1) := by decide +kernel
theorem dL_law_1607 : decode cL_law 1607 = .ok (.iaload, 1) := by decide +kernel
theorem dL_law_1608 : decode cL_law 1608 = .ok (.aload 4, 2) := by decide +kernel
set_option maxRecDepth 20000 in
theorem ggL_law_L_haltingShare : GoodIn wsL_law wsL_haltingShare := goodIn_ca (goodIn_ca (goodIn_r _ [1220, 208, 1221, 1222, 1223, 2, 1224, 25, 21, 1225, 1226, 1227, 1148, 1149, 1150, 219, 220, 221, 214, 215, 216, 217, 218, 1151, 1152, 1153, 24, 1154, 127, 128, 122, 123, 124, 125, 126, 1155, 1156, 1157, 1158, 129, 1159, 1160, 1161, 1162, 1163, 311, 285, 312, 1164, 284, 286, 1165, 459, 460, 43, 461, 462, 463, 464, 465, 72, 65, 66, 67, 68, 69, 70, 466, 467, 299, 468, 469, 470, 471, 472, 473, 474, 475, 476, 477, 478, 479, 480, 349, 350, 120, 351, 144, 145, 141, 481, 482, 483, 484, 485, 486, 487, 488, 489, 490, 491, 492, 493, 1166, 542, 543, 544, 1167, 798, 799, 47, 800, 81, 76, 77, 801, 802, 803, 804, 79, 82, 83, 84, 805, 806, 807, 808, 352, 353, 809, 810, 811, 812, 813, 814, 80, 815, 816, 817, 818, 819, 314, 315, 316, 728, 729, 820, 821, 822, 823, 824, 825, 826, 827, 828, 1168, 830, 831, 832, 833, 834, 835, 836, 85, 837, 838, 839, 840, 841, 842, 843, 844, 845, 1169, 1170, 1171, 1172, 1173, 121, 1174, 565, 566, 567, 1175, 434, 435, 436, 348, 437, 344, 345, 346, 137, 347, 337, 338, 339, 1176, 1177, 341, 342, 1178, 1847, 1848, 1849, 1850, 1851, 1852, 1853, 1881, 1882, 1883, 1884, 1885, 1886, 1887, 1888, 1889, 1875, 1876, 1877, 1878, 1879, 1880, 1944, 1945, 1946, 1947, 1948, 1949, 1950, 1951, 1952, 1953, 1954, 1908, 1909, 1910, 1911, 1912, 1913, 1914, 1915, 1916, 1917, 1918, 1919, 1920, 1921, 1922, 1923] (by decide +kernel) (by decide +kernel)) (goodIn_sub (fun _ h => List.mem_append_left _ (List.mem_append_left _ (List.mem_append_left _ (List.mem_append_left _ (List.mem_append_left _ (List.mem_append_left _ (List.mem_append_left _ (List.mem_append_right _ h)))))))) (by decide +kernel))) (goodIn_sub (fun _ h => List.mem_append_left _ (List.mem_append_left _ (List.mem_append_left _ (List.mem_append_left _ (List.mem_append_left _ (List.mem_append_left _ (List.mem_append_right _ h))))))) (by decide +kernel))
set_option maxRecDepth 20000 in
theorem gL_law_L_haltingShare : GoodIn wsL_law (va_wsS RL 217 yL_haltingShare wsL_haltingShare) := goodIn_app (goodIn_of _ (by decide +kernel)) ggL_law_L_haltingShare
theorem dL_law_1610 : decode cL_law 1610 = .ok (.invokestatic 217, 3) := by decide +kernel
theorem dL_law_1613 : decode cL_law 1613 = .ok (.istore 6, 2) := by decide +kernel
theorem dL_law_1615 : decode cL_law 1615 = .ok (.aload_n 2, 1) := by decide +kernel
theorem dL_law_1616 : decode cL_law 1616 = .ok (.aload_n 0, 1) := by decide +kernel
theorem dL_law_1617 : decode cL_law 1617 = .ok (.iload 5, 2) := by decide +kernel
theorem dL_law_1619 : decode cL_law 1619 = .ok (.iconst 1, 1) := by decide +kernel
theorem dL_law_1620 : decode cL_law 1620 = .ok (.iadd, 1) := by decide +kernel
theorem dL_law_1621 : decode cL_law 1621 = .ok (.iaload, 1) := by decide +kernel
theorem dL_law_1622 : decode cL_law 1622 = .ok (.aload_n 0, 1) := by decide +kernel
theorem dL_law_1623 : decode cL_law 1623 = .ok (.iload 5, 2) := by decide +kernel
theorem dL_law_1625 : decode cL_law 1625 = .ok (.iconst 2, 1) := by decide +kernel
theorem dL_law_1626 : decode cL_law 1626 = .ok (.iadd, 1) := by decide +kernel
theorem dL_law_1627 : decode cL_law 1627 = .ok (.iaload, 1) := by decide +kernel
set_option maxRecDepth 20000 in
theorem ggL_law_X15_haltingShare : GoodIn wsL_law wsX15_haltingShare := goodIn_ca (goodIn_ca (goodIn_r _ [1231, 240, 1187, 1188, 1189, 1192, 1193, 5, 1194, 238, 1195, 244, 245, 246, 1196, 1197, 1198, 1199, 1190, 1191, 1200, 241, 242, 243, 252, 253, 254, 255, 13, 14, 256, 257, 258, 259, 260, 261, 71, 262, 263, 264, 1201, 1202, 1203, 1204, 499, 500, 501, 983, 284, 285, 286, 964, 311, 312, 502, 503, 504, 505, 506, 507, 508, 509, 510, 511, 512, 513, 514, 515, 516, 517, 518, 519, 520, 521, 522, 523, 524, 525, 526, 527, 528, 529, 530, 531, 532, 533, 388, 389, 390, 936, 937, 938, 939, 940, 941, 942, 943, 944, 945, 946, 947, 948, 949, 950, 951, 952, 932, 933, 934, 935, 922, 923, 953, 954, 955, 956, 957, 958, 959, 960, 961, 962, 963, 965, 966, 967, 968, 442, 443, 444, 445, 446, 395, 447, 655, 656, 657, 658, 1205, 391, 392, 393, 394, 396, 397, 398, 399, 400, 419, 420, 421, 422, 1854, 1855, 1856, 1857, 1858, 1859, 1860, 1861, 1862, 1863, 1864, 1865, 1866, 1867, 1868, 1869, 1870, 1871, 1872, 1873, 1874, 1958, 1959, 1960, 1961, 1962, 1963, 1964, 1965, 1966, 1967, 1968, 1969, 1970, 1971, 1972, 1973, 1974, 1975, 1976, 1977, 1978] (by decide +kernel) (by decide +kernel)) (goodIn_sub (fun _ h => List.mem_append_left _ (List.mem_append_left _ (List.mem_append_left _ (List.mem_append_left _ (List.mem_append_left _ (List.mem_append_left _ (List.mem_append_left _ (List.mem_append_right _ h)))))))) (by decide +kernel))) (goodIn_sub (fun _ h => List.mem_append_left _ (List.mem_append_right _ h)) (by decide +kernel))
set_option maxRecDepth 20000 in
theorem gL_law_X15_haltingShare : GoodIn wsL_law (wsV RL 220 RX15 yX15_haltingShare wsX15_haltingShare) := goodIn_app (goodIn_of _ (by decide +kernel)) ggL_law_X15_haltingShare
theorem dL_law_1628 : decode cL_law 1628 = .ok (.invokevirtual 220, 3) := by decide +kernel
theorem dL_law_1631 : decode cL_law 1631 = .ok (.fstore 7, 2) := by decide +kernel
theorem dL_law_1633 : decode cL_law 1633 = .ok (.aload_n 2, 1) := by decide +kernel
theorem dL_law_1634 : decode cL_law 1634 = .ok (.invokevirtual 152, 3) := by decide +kernel
theorem dL_law_1637 : decode cL_law 1637 = .ok (.iload 6, 2) := by decide +kernel
theorem dL_law_1639 : decode cL_law 1639 = .ok (.if_icmp .eq 5, 3) := by decide +kernel
theorem dL_law_1644 : decode cL_law 1644 = .ok (.iload 6, 2) := by decide +kernel
theorem dL_law_1646 : decode cL_law 1646 = .ok (.ifCond .ne 36, 3) := by decide +kernel
theorem dL_law_1649 : decode cL_law 1649 = .ok (.aload 4, 2) := by decide +kernel
theorem dL_law_1651 : decode cL_law 1651 = .ok (.iconst 0, 1) := by decide +kernel
theorem dL_law_1652 : decode cL_law 1652 = .ok (.daload, 1) := by decide +kernel
theorem dL_law_1653 : decode cL_law 1653 = .ok (.fload 7, 2) := by decide +kernel
theorem dL_law_1655 : decode cL_law 1655 = .ok (.f2d, 1) := by decide +kernel
theorem dL_law_1656 : decode cL_law 1656 = .ok (.dcmp .l, 1) := by decide +kernel
theorem dL_law_1657 : decode cL_law 1657 = .ok (.ifCond .eq 25, 3) := by decide +kernel
theorem dL_law_1682 : decode cL_law 1682 = .ok (.goto 1096, 3) := by decide +kernel
theorem dL_law_1685 : decode cL_law 1685 = .ok (.aload_n 1, 1) := by decide +kernel
theorem dL_law_1686 : decode cL_law 1686 = .ok (.aload_n 0, 1) := by decide +kernel
theorem dL_law_1687 : decode cL_law 1687 = .ok (.iload 5, 2) := by decide +kernel
theorem dL_law_1689 : decode cL_law 1689 = .ok (.iconst 1, 1) := by decide +kernel
theorem dL_law_1690 : decode cL_law 1690 = .ok (.iadd, 1) := by decide +kernel
theorem dL_law_1691 : decode cL_law 1691 = .ok (.iaload, 1) := by decide +kernel
theorem dL_law_1692 : decode cL_law 1692 = .ok (.i2c, 1) := by decide +kernel
theorem dL_law_1693 : decode cL_law 1693 = .ok (.aload_n 3, 1) := by decide +kernel
set_option maxRecDepth 20000 in
theorem ggL_law_L_record : GoodIn wsL_law wsL_record := goodIn_ca (goodIn_ca (goodIn_ca (goodIn_ca (goodIn_r _ [1234, 208, 404, 1235, 1236, 1237, 2, 1238, 17, 1054, 1055, 214, 215, 216, 217, 218, 330, 331, 332, 333, 334, 335, 16, 1239, 1240, 1241, 1242, 21, 1034, 1035, 1036, 120, 1037, 138, 1079, 1080, 1081, 20, 1082, 794, 795, 796, 1083, 1084, 285, 1085, 52, 1086, 1087, 1088, 1089, 44, 784, 788, 459, 460, 43, 461, 462, 463, 464, 465, 72, 65, 66, 67, 68, 69, 70, 466, 467, 299, 468, 469, 470, 471, 472, 473, 474, 311, 312, 475, 284, 286, 476, 477, 478, 479, 480, 349, 350, 351, 144, 145, 141, 481, 482, 483, 484, 485, 486, 487, 488, 489, 490, 491, 492, 493, 789, 542, 543, 544, 790, 565, 566, 567, 1090, 1091, 1092, 1093, 53, 1094, 1095, 826, 827, 828, 1096, 1097, 1098, 1099, 1100, 1101, 1102, 1103, 1104, 1105, 1106, 816, 817, 818, 819, 314, 315, 316, 1107, 843, 844, 845, 846, 847, 848, 51, 849, 89, 850, 851, 852, 853, 91, 90, 93, 92, 854, 855, 856, 857, 352, 353, 858, 859, 860, 861, 862, 863, 864, 728, 729, 865, 866, 867, 868, 869, 870, 871, 872, 873, 874, 875, 876, 877, 878, 879, 880, 881, 882, 883, 1108, 1109, 1110, 1111, 61, 787, 884, 885, 886, 60, 887, 109, 108, 110, 111, 112, 114, 113, 888, 889, 890, 891, 892, 893, 894, 895, 896, 897, 898, 899, 900, 901, 902, 903, 904, 905, 906, 907, 908, 909, 910, 911, 912, 913, 914, 915, 916, 917, 410, 411, 412, 413, 414, 1847, 1848, 1849, 1850, 1851, 1852, 1853, 1944, 1945, 1946, 1947, 1948, 1949, 1950, 1951, 1952, 1953, 1954, 1875, 1876, 1877, 1878, 1879, 1880, 1908, 1909, 1910, 1911, 1912, 1913, 1914, 1924, 1925, 1926, 1927, 1928, 1937, 1938, 1939, 1940, 1941, 1942, 1943] (by decide +kernel) (by decide +kernel)) (goodIn_sub (fun _ h => List.mem_append_left _ (List.mem_append_left _ (List.mem_append_left _ (List.mem_append_left _ (List.mem_append_left _ (List.mem_append_left _ (List.mem_append_left _ (List.mem_append_right _ h)))))))) (by decide +kernel))) (goodIn_sub (fun _ h => List.mem_append_left _ (List.mem_append_left _ (List.mem_append_left _ (List.mem_append_left _ (List.mem_append_left _ (List.mem_append_left _ (List.mem_append_right _ h))))))) (by decide +kernel))) (goodIn_sub (fun _ h => List.mem_append_left _ (List.mem_append_left _ (List.mem_append_left _ (List.mem_append_left _ (List.mem_append_right _ h))))) (by decide +kernel))) (goodIn_sub (fun _ h => List.mem_append_left _ (List.mem_append_left _ (List.mem_append_left _ (List.mem_append_right _ h)))) (by decide +kernel))
set_option maxRecDepth 20000 in
theorem gL_law_L_record : GoodIn wsL_law (va_wsS RL 221 yL_record wsL_record) := goodIn_app (goodIn_of _ (by decide +kernel)) ggL_law_L_record
theorem dL_law_1694 : decode cL_law 1694 = .ok (.invokestatic 221, 3) := by decide +kernel
theorem dL_law_1697 : decode cL_law 1697 = .ok (.istore 6, 2) := by decide +kernel
theorem dL_law_1699 : decode cL_law 1699 = .ok (.aload_n 2, 1) := by decide +kernel
theorem dL_law_1700 : decode cL_law 1700 = .ok (.aload_n 0, 1) := by decide +kernel
theorem dL_law_1701 : decode cL_law 1701 = .ok (.iload 5, 2) := by decide +kernel
theorem dL_law_1703 : decode cL_law 1703 = .ok (.iconst 1, 1) := by decide +kernel
theorem dL_law_1704 : decode cL_law 1704 = .ok (.iadd, 1) := by decide +kernel
theorem dL_law_1705 : decode cL_law 1705 = .ok (.iaload, 1) := by decide +kernel
theorem dL_law_1706 : decode cL_law 1706 = .ok (.i2c, 1) := by decide +kernel
set_option maxRecDepth 20000 in
theorem ggL_law_X15_record : GoodIn wsL_law wsX15_record := goodIn_ca (goodIn_ca (goodIn_r _ [1246, 181, 362, 983, 284, 285, 286, 240, 383, 384, 385, 5, 386, 247, 248, 249, 180, 250, 251, 367, 368, 369, 370, 371, 372, 373, 374, 375, 376, 377, 378, 379, 380, 381, 382, 193, 1116, 1117, 1118, 1119, 922, 923, 499, 500, 501, 1120, 1084, 1085, 928, 929, 930, 931, 502, 503, 504, 505, 13, 14, 71, 506, 507, 508, 509, 510, 511, 512, 513, 514, 515, 516, 517, 518, 519, 520, 521, 522, 311, 312, 523, 524, 525, 526, 527, 528, 529, 530, 531, 532, 533, 388, 389, 243, 390, 261, 655, 656, 657, 658, 932, 933, 934, 935, 948, 940, 941, 942, 943, 944, 945, 946, 947, 949, 950, 951, 952, 442, 443, 444, 445, 446, 242, 259, 260, 262, 263, 264, 395, 447, 253, 254, 255, 256, 257, 258, 244, 245, 246, 961, 962, 963, 964, 965, 966, 967, 968, 969, 970, 971, 972, 177, 973, 974, 975, 976, 977, 978, 979, 980, 981, 982, 984, 985, 986, 987, 988, 989, 990, 991, 992, 993, 994, 995, 996, 997, 998, 999, 1000, 1001, 1002, 1003, 1004, 1005, 1006, 1007, 1008, 1009, 1010, 1011, 1012, 1013, 1014, 1015, 1016, 1017, 1018, 1019, 1020, 1021, 1022, 1023, 1024, 1025, 1026, 1854, 1855, 1856, 1857, 1858, 1859, 1860, 1861, 1862, 1863, 1864, 1865, 1866, 1867, 1868, 1869, 1870, 1871, 1872, 1873, 1874, 1958, 1959, 1960, 1961, 1962, 1963, 1964, 1965, 1966, 1967, 1968, 1969, 1955, 1956, 1957, 1970, 1971, 1972, 1973, 1974, 1975, 1976, 1977, 1978, 1983, 1984, 1985, 1986, 1987, 1988, 1989, 1990, 1991, 1992, 1993] (by decide +kernel) (by decide +kernel)) (goodIn_sub (fun _ h => List.mem_append_left _ (List.mem_append_left _ (List.mem_append_left _ (List.mem_append_left _ (List.mem_append_left _ (List.mem_append_left _ (List.mem_append_left _ (List.mem_append_right _ h)))))))) (by decide +kernel))) (goodIn_sub (fun _ h => List.mem_append_left _ (List.mem_append_right _ h)) (by decide +kernel))
set_option maxRecDepth 20000 in
theorem gL_law_X15_record : GoodIn wsL_law (wsV RL 224 RX15 yX15_record wsX15_record) := goodIn_app (goodIn_of _ (by decide +kernel)) ggL_law_X15_record
theorem dL_law_1707 : decode cL_law 1707 = .ok (.invokevirtual 224, 3) := by decide +kernel
theorem dL_law_1710 : decode cL_law 1710 = .ok (.istore 7, 2) := by decide +kernel
theorem dL_law_1712 : decode cL_law 1712 = .ok (.aload_n 2, 1) := by decide +kernel
theorem dL_law_1713 : decode cL_law 1713 = .ok (.invokevirtual 152, 3) := by decide +kernel
theorem dL_law_1716 : decode cL_law 1716 = .ok (.iload 6, 2) := by decide +kernel
theorem dL_law_1718 : decode cL_law 1718 = .ok (.if_icmp .eq 5, 3) := by decide +kernel
theorem dL_law_1723 : decode cL_law 1723 = .ok (.iload 6, 2) := by decide +kernel
theorem dL_law_1725 : decode cL_law 1725 = .ok (.ifCond .ne 15, 3) := by decide +kernel
theorem dL_law_1740 : decode cL_law 1740 = .ok (.goto 1038, 3) := by decide +kernel
theorem dL_law_1743 : decode cL_law 1743 = .ok (.aload_n 1, 1) := by decide +kernel
theorem dL_law_1744 : decode cL_law 1744 = .ok (.aload_n 0, 1) := by decide +kernel
theorem dL_law_1745 : decode cL_law 1745 = .ok (.iload 5, 2) := by decide +kernel
theorem dL_law_1747 : decode cL_law 1747 = .ok (.iconst 1, 1) := by decide +kernel
theorem dL_law_1748 : decode cL_law 1748 = .ok (.iadd, 1) := by decide +kernel
theorem dL_law_1749 : decode cL_law 1749 = .ok (.iaload, 1) := by decide +kernel
theorem dL_law_1750 : decode cL_law 1750 = .ok (.aload_n 0, 1) := by decide +kernel
theorem dL_law_1751 : decode cL_law 1751 = .ok (.iload 5, 2) := by decide +kernel
theorem dL_law_1753 : decode cL_law 1753 = .ok (.iconst 2, 1) := by decide +kernel
theorem dL_law_1754 : decode cL_law 1754 = .ok (.iadd, 1) := by decide +kernel
theorem dL_law_1755 : decode cL_law 1755 = .ok (.iaload, 1) := by decide +kernel
theorem dL_law_1756 : decode cL_law 1756 = .ok (.aload_n 0, 1) := by decide +kernel
theorem dL_law_1757 : decode cL_law 1757 = .ok (.iload 5, 2) := by decide +kernel
theorem dL_law_1759 : decode cL_law 1759 = .ok (.iconst 3, 1) := by decide +kernel
theorem dL_law_1760 : decode cL_law 1760 = .ok (.iadd, 1) := by decide +kernel
theorem dL_law_1761 : decode cL_law 1761 = .ok (.iaload, 1) := by decide +kernel
theorem dL_law_1762 : decode cL_law 1762 = .ok (.i2c, 1) := by decide +kernel
theorem dL_law_1763 : decode cL_law 1763 = .ok (.aload_n 3, 1) := by decide +kernel
set_option maxRecDepth 20000 in
theorem ggL_law_L_tell : GoodIn wsL_law wsL_tell := goodIn_ca (goodIn_ca (goodIn_ca (goodIn_r _ [1249, 324, 208, 1250, 1251, 1252, 2, 1253, 330, 331, 332, 333, 334, 335, 17, 16, 219, 220, 221, 214, 215, 216, 217, 218, 1254, 1255, 1256, 120, 1257, 142, 352, 353, 1847, 1848, 1849, 1850, 1851, 1852, 1853, 1944, 1945, 1946, 1947, 1948, 1949, 1950, 1951, 1952, 1953, 1954] (by decide +kernel) (by decide +kernel)) (goodIn_sub (fun _ h => List.mem_append_left _ (List.mem_append_left _ (List.mem_append_left _ (List.mem_append_left _ (List.mem_append_left _ (List.mem_append_left _ (List.mem_append_left _ (List.mem_append_right _ h)))))))) (by decide +kernel))) (goodIn_sub (fun _ h => List.mem_append_left _ (List.mem_append_left _ (List.mem_append_left _ (List.mem_append_left _ (List.mem_append_right _ h))))) (by decide +kernel))) (goodIn_sub (fun _ h => List.mem_append_left _ (List.mem_append_left _ (List.mem_append_left _ (List.mem_append_left _ (List.mem_append_left _ (List.mem_append_left _ (List.mem_append_right _ h))))))) (by decide +kernel))
set_option maxRecDepth 20000 in
theorem gL_law_L_tell : GoodIn wsL_law (va_wsS RL 225 yL_tell wsL_tell) := goodIn_app (goodIn_of _ (by decide +kernel)) ggL_law_L_tell
theorem dL_law_1764 : decode cL_law 1764 = .ok (.invokestatic 225, 3) := by decide +kernel
theorem dL_law_1767 : decode cL_law 1767 = .ok (.istore 6, 2) := by decide +kernel
theorem dL_law_1769 : decode cL_law 1769 = .ok (.aload_n 2, 1) := by decide +kernel
theorem dL_law_1770 : decode cL_law 1770 = .ok (.aload_n 0, 1) := by decide +kernel
theorem dL_law_1771 : decode cL_law 1771 = .ok (.iload 5, 2) := by decide +kernel
theorem dL_law_1773 : decode cL_law 1773 = .ok (.iconst 1, 1) := by decide +kernel
theorem dL_law_1774 : decode cL_law 1774 = .ok (.iadd, 1) := by decide +kernel
theorem dL_law_1775 : decode cL_law 1775 = .ok (.iaload, 1) := by decide +kernel
theorem dL_law_1776 : decode cL_law 1776 = .ok (.aload_n 0, 1) := by decide +kernel
theorem dL_law_1777 : decode cL_law 1777 = .ok (.iload 5, 2) := by decide +kernel
theorem dL_law_1779 : decode cL_law 1779 = .ok (.iconst 2, 1) := by decide +kernel
theorem dL_law_1780 : decode cL_law 1780 = .ok (.iadd, 1) := by decide +kernel
theorem dL_law_1781 : decode cL_law 1781 = .ok (.iaload, 1) := by decide +kernel
theorem dL_law_1782 : decode cL_law 1782 = .ok (.aload_n 0, 1) := by decide +kernel
theorem dL_law_1783 : decode cL_law 1783 = .ok (.iload 5, 2) := by decide +kernel
theorem dL_law_1785 : decode cL_law 1785 = .ok (.iconst 3, 1) := by decide +kernel
theorem dL_law_1786 : decode cL_law 1786 = .ok (.iadd, 1) := by decide +kernel
theorem dL_law_1787 : decode cL_law 1787 = .ok (.iaload, 1) := by decide +kernel
theorem dL_law_1788 : decode cL_law 1788 = .ok (.i2c, 1) := by decide +kernel
set_option maxRecDepth 20000 in
theorem ggL_law_X15_tell : GoodIn wsL_law wsX15_tell := goodIn_ca (goodIn_r _ [1261, 1262, 181, 362, 363, 364, 365, 5, 366, 240, 247, 248, 249, 180, 250, 251, 244, 245, 246, 383, 384, 385, 386, 367, 368, 369, 370, 371, 372, 373, 374, 375, 376, 377, 378, 379, 380, 381, 382, 193, 1854, 1855, 1856, 1857, 1858, 1859, 1860, 1861, 1862, 1863, 1864, 1865, 1866, 1867, 1868, 1869, 1870, 1871, 1872, 1873, 1874, 1958, 1959, 1960, 1961, 1962, 1963, 1964, 1965, 1966, 1967, 1968, 1969, 1955, 1956, 1957] (by decide +kernel) (by decide +kernel)) (goodIn_sub (fun _ h => List.mem_append_left _ (List.mem_append_left _ (List.mem_append_left _ (List.mem_append_left _ (List.mem_append_left _ (List.mem_append_left _ (List.mem_append_left _ (List.mem_append_right _ h)))))))) (by decide +kernel))
set_option maxRecDepth 20000 in
theorem gL_law_X15_tell : GoodIn wsL_law (wsV RL 227 RX15 yX15_tell wsX15_tell) := goodIn_app (goodIn_of _ (by decide +kernel)) ggL_law_X15_tell
theorem dL_law_1789 : decode cL_law 1789 = .ok (.invokevirtual 227, 3) := by decide +kernel
theorem dL_law_1792 : decode cL_law 1792 = .ok (.istore 7, 2) := by decide +kernel
theorem dL_law_1794 : decode cL_law 1794 = .ok (.aload_n 2, 1) := by decide +kernel
theorem dL_law_1795 : decode cL_law 1795 = .ok (.invokevirtual 152, 3) := by decide +kernel
theorem dL_law_1798 : decode cL_law 1798 = .ok (.iload 6, 2) := by decide +kernel
theorem dL_law_1800 : decode cL_law 1800 = .ok (.if_icmp .eq 5, 3) := by decide +kernel
theorem dL_law_1805 : decode cL_law 1805 = .ok (.iload 6, 2) := by decide +kernel
theorem dL_law_1807 : decode cL_law 1807 = .ok (.ifCond .ne 15, 3) := by decide +kernel
theorem dL_law_1822 : decode cL_law 1822 = .ok (.goto 956, 3) := by decide +kernel
theorem dL_law_1825 : decode cL_law 1825 = .ok (.aload_n 1, 1) := by decide +kernel
theorem dL_law_1826 : decode cL_law 1826 = .ok (.aload_n 0, 1) := by decide +kernel
theorem dL_law_1827 : decode cL_law 1827 = .ok (.iload 5, 2) := by decide +kernel
theorem dL_law_1829 : decode cL_law 1829 = .ok (.iconst 1, 1) := by decide +kernel
theorem dL_law_1830 : decode cL_law 1830 = .ok (.iadd, 1) := by decide +kernel
theorem dL_law_1831 : decode cL_law 1831 = .ok (.iaload, 1) := by decide +kernel
theorem dL_law_1832 : decode cL_law 1832 = .ok (.aload_n 3, 1) := by decide +kernel
set_option maxRecDepth 20000 in
theorem ggL_law_L_isDisputed : GoodIn wsL_law wsL_isDisputed := goodIn_ca (goodIn_ca (goodIn_r _ [1265, 324, 1266, 1267, 1268, 2, 1269, 330, 331, 332, 333, 334, 335, 17, 16, 1270, 1271, 1272, 120, 1273, 138, 142, 1274, 1035, 1036, 1037, 1847, 1848, 1849, 1850, 1851, 1852, 1853, 1944, 1945, 1946, 1947, 1948, 1949, 1950, 1951, 1952, 1953, 1954] (by decide +kernel) (by decide +kernel)) (goodIn_sub (fun _ h => List.mem_append_left _ (List.mem_append_left _ (List.mem_append_left _ (List.mem_append_left _ (List.mem_append_left _ (List.mem_append_left _ (List.mem_append_left _ (List.mem_append_right _ h)))))))) (by decide +kernel))) (goodIn_sub (fun _ h => List.mem_append_left _ (List.mem_append_left _ (List.mem_append_left _ (List.mem_append_left _ (List.mem_append_right _ h))))) (by decide +kernel))
set_option maxRecDepth 20000 in
theorem gL_law_L_isDisputed : GoodIn wsL_law (va_wsS RL 228 yL_isDisputed wsL_isDisputed) := goodIn_app (goodIn_of _ (by decide +kernel)) ggL_law_L_isDisputed
theorem dL_law_1833 : decode cL_law 1833 = .ok (.invokestatic 228, 3) := by decide +kernel
theorem dL_law_1836 : decode cL_law 1836 = .ok (.istore 6, 2) := by decide +kernel
theorem dL_law_1838 : decode cL_law 1838 = .ok (.aload_n 2, 1) := by decide +kernel
theorem dL_law_1839 : decode cL_law 1839 = .ok (.aload_n 0, 1) := by decide +kernel
theorem dL_law_1840 : decode cL_law 1840 = .ok (.iload 5, 2) := by decide +kernel
theorem dL_law_1842 : decode cL_law 1842 = .ok (.iconst 1, 1) := by decide +kernel
theorem dL_law_1843 : decode cL_law 1843 = .ok (.iadd, 1) := by decide +kernel
theorem dL_law_1844 : decode cL_law 1844 = .ok (.iaload, 1) := by decide +kernel
set_option maxRecDepth 20000 in
theorem ggL_law_X15_isDisputed : GoodIn wsL_law wsX15_isDisputed := goodIn_ca (goodIn_r _ [1278, 181, 362, 363, 364, 365, 5, 366, 240, 247, 248, 249, 180, 250, 251, 244, 245, 246, 367, 368, 369, 370, 371, 372, 373, 374, 375, 376, 377, 378, 379, 380, 381, 382, 193, 1042, 1043, 1044, 243, 1045, 256, 1854, 1855, 1856, 1857, 1858, 1859, 1860, 1861, 1862, 1863, 1864, 1865, 1866, 1867, 1868, 1869, 1870, 1871, 1872, 1873, 1874, 1958, 1959, 1960, 1961, 1962, 1963, 1964, 1965, 1966, 1967, 1968, 1969, 1955, 1956, 1957] (by decide +kernel) (by decide +kernel)) (goodIn_sub (fun _ h => List.mem_append_left _ (List.mem_append_left _ (List.mem_append_left _ (List.mem_append_left _ (List.mem_append_left _ (List.mem_append_left _ (List.mem_append_left _ (List.mem_append_right _ h)))))))) (by decide +kernel))
set_option maxRecDepth 20000 in
theorem gL_law_X15_isDisputed : GoodIn wsL_law (wsV RL 230 RX15 yX15_isDisputed wsX15_isDisputed) := goodIn_app (goodIn_of _ (by decide +kernel)) ggL_law_X15_isDisputed
theorem dL_law_1845 : decode cL_law 1845 = .ok (.invokevirtual 230, 3) := by decide +kernel
theorem dL_law_1848 : decode cL_law 1848 = .ok (.istore 7, 2) := by decide +kernel
theorem dL_law_1850 : decode cL_law 1850 = .ok (.aload_n 2, 1) := by decide +kernel
theorem dL_law_1851 : decode cL_law 1851 = .ok (.invokevirtual 152, 3) := by decide +kernel
theorem dL_law_1854 : decode cL_law 1854 = .ok (.iload 6, 2) := by decide +kernel
theorem dL_law_1856 : decode cL_law 1856 = .ok (.if_icmp .eq 5, 3) := by decide +kernel
theorem dL_law_1861 : decode cL_law 1861 = .ok (.iload 6, 2) := by decide +kernel
theorem dL_law_1863 : decode cL_law 1863 = .ok (.ifCond .ne 22, 3) := by decide +kernel
theorem dL_law_1885 : decode cL_law 1885 = .ok (.goto 893, 3) := by decide +kernel
theorem dL_law_1888 : decode cL_law 1888 = .ok (.aload_n 1, 1) := by decide +kernel
set_option maxRecDepth 20000 in
theorem ggL_law_X11_holdouts : GoodIn wsL_law wsX11_holdouts := goodIn_ca (goodIn_ca (goodIn_r _ [1282, 17, 21, 330, 331, 332, 2, 333, 334, 335, 16, 1079, 1080, 1081, 20, 1082, 794, 795, 796, 1083, 1084, 285, 1085, 52, 1086, 1087, 1088, 1089, 44, 784, 788, 459, 460, 43, 461, 462, 463, 464, 465, 72, 65, 66, 67, 68, 69, 70, 466, 467, 299, 468, 469, 470, 471, 472, 473, 474, 311, 312, 475, 284, 286, 476, 477, 478, 479, 480, 349, 350, 120, 351, 144, 145, 141, 481, 482, 483, 484, 485, 486, 487, 488, 489, 490, 491, 492, 493, 789, 542, 543, 544, 790, 565, 566, 567, 1090, 1091, 1092, 1093, 53, 1094, 1095, 826, 827, 828, 1096, 1097, 1098, 1099, 1100, 1101, 1102, 1103, 1104, 1105, 1106, 816, 817, 818, 819, 314, 315, 316, 1107, 843, 844, 845, 846, 847, 848, 51, 849, 89, 850, 851, 852, 853, 91, 90, 93, 92, 854, 855, 856, 857, 352, 353, 858, 859, 860, 861, 862, 863, 864, 728, 729, 865, 866, 867, 868, 869, 870, 871, 872, 873, 874, 875, 876, 877, 878, 879, 880, 881, 882, 883, 1108, 1109, 1110, 1111, 61, 787, 884, 885, 886, 60, 887, 109, 108, 110, 111, 112, 114, 113, 888, 889, 890, 891, 892, 893, 894, 895, 896, 897, 898, 899, 900, 901, 902, 903, 904, 905, 906, 907, 908, 909, 910, 911, 912, 913, 914, 915, 916, 917, 1847, 1848, 1849, 1850, 1851, 1852, 1853, 1944, 1945, 1946, 1947, 1948, 1949, 1950, 1951, 1952, 1953, 1954, 1875, 1876, 1877, 1878, 1879, 1880, 1908, 1909, 1910, 1911, 1912, 1913, 1914, 1924, 1925, 1926, 1927, 1928, 1937, 1938, 1939, 1940, 1941, 1942, 1943] (by decide +kernel) (by decide +kernel)) (goodIn_sub (fun _ h => List.mem_append_left _ (List.mem_append_left _ (List.mem_append_left _ (List.mem_append_left _ (List.mem_append_right _ h))))) (by decide +kernel))) (goodIn_sub (fun _ h => List.mem_append_left _ (List.mem_append_left _ (List.mem_append_left _ (List.mem_append_left _ (List.mem_append_left _ (List.mem_append_left _ (List.mem_append_left _ (List.mem_append_right _ h)))))))) (by decide +kernel))
set_option maxRecDepth 20000 in
theorem gL_law_X11_holdouts : GoodIn wsL_law (wsV RL 231 RX11 yX11_holdouts wsX11_holdouts) := goodIn_app (goodIn_of _ (by decide +kernel)) ggL_law_X11_holdouts
theorem dL_law_1889 : decode cL_law 1889 = .ok (.invokevirtual 231, 3) := by decide +kernel
theorem dL_law_1892 : decode cL_law 1892 = .ok (.aload_n 2, 1) := by decide +kernel
set_option maxRecDepth 20000 in
theorem ggL_law_X15_holdouts : GoodIn wsL_law wsX15_holdouts := goodIn_ca (goodIn_ca (goodIn_r _ [1286, 240, 181, 362, 1287, 1288, 1289, 180, 1290, 1291, 1292, 1293, 1294, 1295, 1296, 1297, 1298, 13, 14, 1299, 1300, 270, 1301, 1302, 1303, 1304, 1305, 1306, 1307, 1308, 1309, 1310, 1311, 1312, 1313, 1314, 1315, 1116, 1117, 1118, 5, 1119, 922, 923, 499, 500, 501, 1120, 1084, 285, 1085, 928, 929, 930, 931, 502, 503, 504, 505, 71, 506, 507, 508, 509, 510, 511, 512, 513, 514, 515, 516, 517, 518, 519, 520, 521, 522, 311, 312, 523, 524, 284, 286, 525, 526, 527, 528, 529, 530, 531, 532, 533, 388, 389, 243, 390, 261, 655, 656, 657, 658, 932, 933, 934, 935, 948, 940, 941, 942, 943, 944, 945, 946, 947, 949, 950, 951, 952, 442, 443, 444, 445, 446, 242, 259, 260, 262, 263, 264, 395, 447, 253, 254, 255, 256, 257, 258, 244, 245, 246, 961, 962, 963, 964, 965, 966, 967, 968, 969, 970, 971, 972, 177, 973, 974, 975, 976, 977, 978, 979, 980, 981, 982, 983, 984, 985, 986, 987, 988, 989, 990, 991, 992, 993, 994, 995, 996, 997, 998, 999, 1000, 1001, 1002, 1003, 1004, 1005, 1006, 1007, 1008, 1009, 1010, 1011, 1012, 1013, 1014, 1015, 1016, 1017, 1018, 1019, 1020, 1021, 1022, 1023, 1024, 1025, 1026, 1854, 1855, 1856, 1857, 1858, 1859, 1860, 1861, 1862, 1863, 1864, 1865, 1866, 1867, 1868, 1869, 1870, 1871, 1872, 1873, 1874, 1994, 1995, 1996, 1997, 1955, 1956, 1957, 1958, 1959, 1960, 1961, 1962, 1963, 1964, 1965, 1966, 1967, 1968, 1969, 1970, 1971, 1972, 1973, 1974, 1975, 1976, 1977, 1978, 1983, 1984, 1985, 1986, 1987, 1988, 1989, 1990, 1991, 1992, 1993] (by decide +kernel) (by decide +kernel)) (goodIn_sub (fun _ h => List.mem_append_left _ (List.mem_append_left _ (List.mem_append_left _ (List.mem_append_left _ (List.mem_append_left _ (List.mem_append_left _ (List.mem_append_left _ (List.mem_append_right _ h)))))))) (by decide +kernel))) (goodIn_sub (fun _ h => List.mem_append_left _ (List.mem_append_right _ h)) (by decide +kernel))
set_option maxRecDepth 20000 in
theorem gL_law_X15_holdouts : GoodIn wsL_law (wsV RL 234 RX15 yX15_holdouts wsX15_holdouts) := goodIn_app (goodIn_of _ (by decide +kernel)) ggL_law_X15_holdouts
theorem dL_law_1893 : decode cL_law 1893 = .ok (.invokevirtual 234, 3) := by decide +kernel
theorem dL_law_1896 : decode cL_law 1896 = .ok (.if_icmp .eq 882, 3) := by decide +kernel
theorem dL_law_1901 : decode cL_law 1901 = .ok (.aload_n 1, 1) := by decide +kernel
theorem dL_law_1902 : decode cL_law 1902 = .ok (.aload_n 0, 1) := by decide +kernel
theorem dL_law_1903 : decode cL_law 1903 = .ok (.iload 5, 2) := by decide +kernel
theorem dL_law_1905 : decode cL_law 1905 = .ok (.iconst 1, 1) := by decide +kernel
theorem dL_law_1906 : decode cL_law 1906 = .ok (.iadd, 1) := by decide +kernel
theorem dL_law_1907 : decode cL_law 1907 = .ok (.iaload, 1) := by decide +kernel
theorem dL_law_1908 : decode cL_law 1908 = .ok (.aload_n 3, 1) := by decide +kernel
set_option maxRecDepth 20000 in
theorem ggL_law_L_holdoutAt : GoodIn wsL_law wsL_holdoutAt := goodIn_ca (goodIn_ca (goodIn_ca (goodIn_r _ [1318, 404, 1319, 1320, 1321, 2, 1322, 17, 21, 330, 331, 332, 333, 334, 335, 16, 1079, 1080, 1081, 20, 1082, 794, 795, 796, 1083, 1084, 285, 1085, 52, 1086, 1087, 1088, 1089, 44, 784, 788, 459, 460, 43, 461, 462, 463, 464, 465, 72, 65, 66, 67, 68, 69, 70, 466, 467, 299, 468, 469, 470, 471, 472, 473, 474, 311, 312, 475, 284, 286, 476, 477, 478, 479, 480, 349, 350, 120, 351, 144, 145, 141, 481, 482, 483, 484, 485, 486, 487, 488, 489, 490, 491, 492, 493, 789, 542, 543, 544, 790, 565, 566, 567, 1090, 1091, 1092, 1093, 53, 1094, 1095, 826, 827, 828, 1096, 1097, 1098, 1099, 1100, 1101, 1102, 1103, 1104, 1105, 1106, 816, 817, 818, 819, 314, 315, 316, 1107, 843, 844, 845, 846, 847, 848, 51, 849, 89, 850, 851, 852, 853, 91, 90, 93, 92, 854, 855, 856, 857, 352, 353, 858, 859, 860, 861, 862, 863, 864, 728, 729, 865, 866, 867, 868, 869, 870, 871, 872, 873, 874, 875, 876, 877, 878, 879, 880, 881, 882, 883, 1108, 1109, 1110, 1111, 61, 787, 884, 885, 886, 60, 887, 109, 108, 110, 111, 112, 114, 113, 888, 889, 890, 891, 892, 893, 894, 895, 896, 897, 898, 899, 900, 901, 902, 903, 904, 905, 906, 907, 908, 909, 910, 911, 912, 913, 914, 915, 916, 917, 410, 411, 412, 413, 414, 1847, 1848, 1849, 1850, 1851, 1852, 1853, 1944, 1945, 1946, 1947, 1948, 1949, 1950, 1951, 1952, 1953, 1954, 1875, 1876, 1877, 1878, 1879, 1880, 1908, 1909, 1910, 1911, 1912, 1913, 1914, 1924, 1925, 1926, 1927, 1928, 1937, 1938, 1939, 1940, 1941, 1942, 1943] (by decide +kernel) (by decide +kernel)) (goodIn_sub (fun _ h => List.mem_append_left _ (List.mem_append_left _ (List.mem_append_left _ (List.mem_append_left _ (List.mem_append_left _ (List.mem_append_left _ (List.mem_append_left _ (List.mem_append_right _ h)))))))) (by decide +kernel))) (goodIn_sub (fun _ h => List.mem_append_left _ (List.mem_append_left _ (List.mem_append_left _ (List.mem_append_left _ (List.mem_append_right _ h))))) (by decide +kernel))) (goodIn_sub (fun _ h => List.mem_append_left _ (List.mem_append_left _ (List.mem_append_left _ (List.mem_append_right _ h)))) (by decide +kernel))
set_option maxRecDepth 20000 in
theorem gL_law_L_holdoutAt : GoodIn wsL_law (va_wsS RL 235 yL_holdoutAt wsL_holdoutAt) := goodIn_app (goodIn_of _ (by decide +kernel)) ggL_law_L_holdoutAt
theorem dL_law_1909 : decode cL_law 1909 = .ok (.invokestatic 235, 3) := by decide +kernel
theorem dL_law_1912 : decode cL_law 1912 = .ok (.istore 6, 2) := by decide +kernel
theorem dL_law_1914 : decode cL_law 1914 = .ok (.aload_n 2, 1) := by decide +kernel
theorem dL_law_1915 : decode cL_law 1915 = .ok (.aload_n 0, 1) := by decide +kernel
theorem dL_law_1916 : decode cL_law 1916 = .ok (.iload 5, 2) := by decide +kernel
theorem dL_law_1918 : decode cL_law 1918 = .ok (.iconst 1, 1) := by decide +kernel
theorem dL_law_1919 : decode cL_law 1919 = .ok (.iadd, 1) := by decide +kernel
theorem dL_law_1920 : decode cL_law 1920 = .ok (.iaload, 1) := by decide +kernel
set_option maxRecDepth 20000 in
theorem ggL_law_X15_holdoutAt : GoodIn wsL_law wsX15_holdoutAt := goodIn_ca (goodIn_ca (goodIn_r _ [1326, 181, 362, 240, 247, 248, 249, 180, 250, 251, 367, 368, 369, 370, 371, 372, 373, 374, 375, 376, 377, 378, 379, 380, 381, 382, 193, 1116, 1117, 1118, 5, 1119, 922, 923, 499, 500, 501, 1120, 1084, 285, 1085, 928, 929, 930, 931, 502, 503, 504, 505, 13, 14, 71, 506, 507, 508, 509, 510, 511, 512, 513, 514, 515, 516, 517, 518, 519, 520, 521, 522, 311, 312, 523, 524, 284, 286, 525, 526, 527, 528, 529, 530, 531, 532, 533, 388, 389, 243, 390, 261, 655, 656, 657, 658, 932, 933, 934, 935, 948, 940, 941, 942, 943, 944, 945, 946, 947, 949, 950, 951, 952, 442, 443, 444, 445, 446, 242, 259, 260, 262, 263, 264, 395, 447, 253, 254, 255, 256, 257, 258, 244, 245, 246, 961, 962, 963, 964, 965, 966, 967, 968, 969, 970, 971, 972, 177, 973, 974, 975, 976, 977, 978, 979, 980, 981, 982, 983, 984, 985, 986, 987, 988, 989, 990, 991, 992, 993, 994, 995, 996, 997, 998, 999, 1000, 1001, 1002, 1003, 1004, 1005, 1006, 1007, 1008, 1009, 1010, 1011, 1012, 1013, 1014, 1015, 1016, 1017, 1018, 1019, 1020, 1021, 1022, 1023, 1024, 1025, 1026, 383, 384, 385, 386, 1854, 1855, 1856, 1857, 1858, 1859, 1860, 1861, 1862, 1863, 1864, 1865, 1866, 1867, 1868, 1869, 1870, 1871, 1872, 1873, 1874, 1955, 1956, 1957, 1958, 1959, 1960, 1961, 1962, 1963, 1964, 1965, 1966, 1967, 1968, 1969, 1970, 1971, 1972, 1973, 1974, 1975, 1976, 1977, 1978, 1983, 1984, 1985, 1986, 1987, 1988, 1989, 1990, 1991, 1992, 1993] (by decide +kernel) (by decide +kernel)) (goodIn_sub (fun _ h => List.mem_append_left _ (List.mem_append_left _ (List.mem_append_left _ (List.mem_append_left _ (List.mem_append_left _ (List.mem_append_left _ (List.mem_append_left _ (List.mem_append_right _ h)))))))) (by decide +kernel))) (goodIn_sub (fun _ h => List.mem_append_left _ (List.mem_append_right _ h)) (by decide +kernel))
set_option maxRecDepth 20000 in
theorem gL_law_X15_holdoutAt : GoodIn wsL_law (wsV RL 237 RX15 yX15_holdoutAt wsX15_holdoutAt) := goodIn_app (goodIn_of _ (by decide +kernel)) ggL_law_X15_holdoutAt
theorem dL_law_1921 : decode cL_law 1921 = .ok (.invokevirtual 237, 3) := by decide +kernel
theorem dL_law_1924 : decode cL_law 1924 = .ok (.istore 7, 2) := by decide +kernel
theorem dL_law_1926 : decode cL_law 1926 = .ok (.aload_n 2, 1) := by decide +kernel
theorem dL_law_1927 : decode cL_law 1927 = .ok (.invokevirtual 152, 3) := by decide +kernel
theorem dL_law_1930 : decode cL_law 1930 = .ok (.iload 6, 2) := by decide +kernel
theorem dL_law_1932 : decode cL_law 1932 = .ok (.if_icmp .eq 5, 3) := by decide +kernel
theorem dL_law_1937 : decode cL_law 1937 = .ok (.iload 6, 2) := by decide +kernel
theorem dL_law_1939 : decode cL_law 1939 = .ok (.ifCond .ne 15, 3) := by decide +kernel
theorem dL_law_1954 : decode cL_law 1954 = .ok (.goto 824, 3) := by decide +kernel
theorem dL_law_1957 : decode cL_law 1957 = .ok (.aload_n 1, 1) := by decide +kernel
theorem dL_law_1958 : decode cL_law 1958 = .ok (.aload_n 0, 1) := by decide +kernel
theorem dL_law_1959 : decode cL_law 1959 = .ok (.iload 5, 2) := by decide +kernel
theorem dL_law_1961 : decode cL_law 1961 = .ok (.iconst 1, 1) := by decide +kernel
theorem dL_law_1962 : decode cL_law 1962 = .ok (.iadd, 1) := by decide +kernel
theorem dL_law_1963 : decode cL_law 1963 = .ok (.iaload, 1) := by decide +kernel
theorem dL_law_1964 : decode cL_law 1964 = .ok (.i2c, 1) := by decide +kernel
theorem dL_law_1965 : decode cL_law 1965 = .ok (.aload_n 0, 1) := by decide +kernel
theorem dL_law_1966 : decode cL_law 1966 = .ok (.iload 5, 2) := by decide +kernel
theorem dL_law_1968 : decode cL_law 1968 = .ok (.iconst 2, 1) := by decide +kernel
theorem dL_law_1969 : decode cL_law 1969 = .ok (.iadd, 1) := by decide +kernel
theorem dL_law_1970 : decode cL_law 1970 = .ok (.iaload, 1) := by decide +kernel
theorem dL_law_1971 : decode cL_law 1971 = .ok (.aload_n 0, 1) := by decide +kernel
theorem dL_law_1972 : decode cL_law 1972 = .ok (.iload 5, 2) := by decide +kernel
theorem dL_law_1974 : decode cL_law 1974 = .ok (.iconst 3, 1) := by decide +kernel
theorem dL_law_1975 : decode cL_law 1975 = .ok (.iadd, 1) := by decide +kernel
theorem dL_law_1976 : decode cL_law 1976 = .ok (.iaload, 1) := by decide +kernel
theorem dL_law_1977 : decode cL_law 1977 = .ok (.aload_n 0, 1) := by decide +kernel
theorem dL_law_1978 : decode cL_law 1978 = .ok (.iload 5, 2) := by decide +kernel
theorem dL_law_1980 : decode cL_law 1980 = .ok (.iconst 4, 1) := by decide +kernel
theorem dL_law_1981 : decode cL_law 1981 = .ok (.iadd, 1) := by decide +kernel
theorem dL_law_1982 : decode cL_law 1982 = .ok (.iaload, 1) := by decide +kernel
theorem dL_law_1983 : decode cL_law 1983 = .ok (.aload_n 3, 1) := by decide +kernel
set_option maxRecDepth 20000 in
theorem ggL_law_L_count : GoodIn wsL_law wsL_count := goodIn_ca (goodIn_ca (goodIn_ca (goodIn_r _ [1329, 208, 209, 1330, 1331, 1332, 2, 1333, 226, 227, 29, 1334, 214, 215, 216, 217, 218, 219, 220, 221, 1335, 1336, 1337, 28, 1338, 151, 149, 152, 153, 154, 1339, 311, 285, 312, 352, 353, 1847, 1848, 1849, 1850, 1851, 1852, 1853, 1890, 1891, 1892, 1893, 1894, 1895] (by decide +kernel) (by decide +kernel)) (goodIn_sub (fun _ h => List.mem_append_left _ (List.mem_append_left _ (List.mem_append_left _ (List.mem_append_left _ (List.mem_append_left _ (List.mem_append_left _ (List.mem_append_left _ (List.mem_append_right _ h)))))))) (by decide +kernel))) (goodIn_sub (fun _ h => List.mem_append_left _ (List.mem_append_left _ (List.mem_append_left _ (List.mem_append_left _ (List.mem_append_left _ (List.mem_append_right _ h)))))) (by decide +kernel))) (goodIn_sub (fun _ h => List.mem_append_left _ (List.mem_append_left _ (List.mem_append_left _ (List.mem_append_left _ (List.mem_append_left _ (List.mem_append_left _ (List.mem_append_right _ h))))))) (by decide +kernel))
set_option maxRecDepth 20000 in
theorem gL_law_L_count : GoodIn wsL_law (va_wsS RL 238 yL_count wsL_count) := goodIn_app (goodIn_of _ (by decide +kernel)) ggL_law_L_count
theorem dL_law_1984 : decode cL_law 1984 = .ok (.invokestatic 238, 3) := by decide +kernel
theorem dL_law_1987 : decode cL_law 1987 = .ok (.istore 6, 2) := by decide +kernel
theorem dL_law_1989 : decode cL_law 1989 = .ok (.aload_n 2, 1) := by decide +kernel
theorem dL_law_1990 : decode cL_law 1990 = .ok (.aload_n 0, 1) := by decide +kernel
theorem dL_law_1991 : decode cL_law 1991 = .ok (.iload 5, 2) := by decide +kernel
theorem dL_law_1993 : decode cL_law 1993 = .ok (.iconst 1, 1) := by decide +kernel
theorem dL_law_1994 : decode cL_law 1994 = .ok (.iadd, 1) := by decide +kernel
theorem dL_law_1995 : decode cL_law 1995 = .ok (.iaload, 1) := by decide +kernel
theorem dL_law_1996 : decode cL_law 1996 = .ok (.i2c, 1) := by decide +kernel
theorem dL_law_1997 : decode cL_law 1997 = .ok (.aload_n 0, 1) := by decide +kernel
theorem dL_law_1998 : decode cL_law 1998 = .ok (.iload 5, 2) := by decide +kernel
theorem dL_law_2000 : decode cL_law 2000 = .ok (.iconst 2, 1) := by decide +kernel
theorem dL_law_2001 : decode cL_law 2001 = .ok (.iadd, 1) := by decide +kernel
theorem dL_law_2002 : decode cL_law 2002 = .ok (.iaload, 1) := by decide +kernel
theorem dL_law_2003 : decode cL_law 2003 = .ok (.aload_n 0, 1) := by decide +kernel
theorem dL_law_2004 : decode cL_law 2004 = .ok (.iload 5, 2) := by decide +kernel
theorem dL_law_2006 : decode cL_law 2006 = .ok (.iconst 3, 1) := by decide +kernel
theorem dL_law_2007 : decode cL_law 2007 = .ok (.iadd, 1) := by decide +kernel
theorem dL_law_2008 : decode cL_law 2008 = .ok (.iaload, 1) := by decide +kernel
theorem dL_law_2009 : decode cL_law 2009 = .ok (.aload_n 0, 1) := by decide +kernel
theorem dL_law_2010 : decode cL_law 2010 = .ok (.iload 5, 2) := by decide +kernel
theorem dL_law_2012 : decode cL_law 2012 = .ok (.iconst 4, 1) := by decide +kernel
theorem dL_law_2013 : decode cL_law 2013 = .ok (.iadd, 1) := by decide +kernel
theorem dL_law_2014 : decode cL_law 2014 = .ok (.iaload, 1) := by decide +kernel
set_option maxRecDepth 20000 in
theorem ggL_law_X15_count : GoodIn wsL_law wsX15_count := goodIn_ca (goodIn_r _ [1343, 1262, 1344, 182, 240, 71, 244, 245, 5, 246, 247, 248, 249, 180, 250, 251, 265, 266, 267, 268, 269, 270, 193, 271, 272, 273, 274, 275, 276, 277, 278, 279, 280, 281, 282, 192, 283, 284, 285, 286, 287, 288, 289, 290, 291, 292, 293, 294, 295, 296, 297, 298, 299, 300, 301, 302, 303, 304, 305, 306, 307, 308, 309, 310, 311, 312, 313, 314, 315, 316, 1854, 1855, 1856, 1857, 1858, 1859, 1860, 1861, 1862, 1863, 1864, 1865, 1866, 1867, 1868, 1869, 1870, 1871, 1872, 1873, 1874, 1955, 1956, 1957] (by decide +kernel) (by decide +kernel)) (goodIn_sub (fun _ h => List.mem_append_left _ (List.mem_append_left _ (List.mem_append_left _ (List.mem_append_left _ (List.mem_append_left _ (List.mem_append_left _ (List.mem_append_left _ (List.mem_append_right _ h)))))))) (by decide +kernel))
set_option maxRecDepth 20000 in
theorem gL_law_X15_count : GoodIn wsL_law (wsV RL 241 RX15 yX15_count wsX15_count) := goodIn_app (goodIn_of _ (by decide +kernel)) ggL_law_X15_count
theorem dL_law_2015 : decode cL_law 2015 = .ok (.invokevirtual 241, 3) := by decide +kernel
theorem dL_law_2018 : decode cL_law 2018 = .ok (.istore 7, 2) := by decide +kernel
theorem dL_law_2020 : decode cL_law 2020 = .ok (.aload_n 2, 1) := by decide +kernel
theorem dL_law_2021 : decode cL_law 2021 = .ok (.invokevirtual 152, 3) := by decide +kernel
theorem dL_law_2024 : decode cL_law 2024 = .ok (.iload 6, 2) := by decide +kernel
theorem dL_law_2026 : decode cL_law 2026 = .ok (.if_icmp .eq 5, 3) := by decide +kernel
theorem dL_law_2031 : decode cL_law 2031 = .ok (.iload 6, 2) := by decide +kernel
theorem dL_law_2033 : decode cL_law 2033 = .ok (.ifCond .ne 15, 3) := by decide +kernel
theorem dL_law_2036 : decode cL_law 2036 = .ok (.aload_n 3, 1) := by decide +kernel
theorem dL_law_2037 : decode cL_law 2037 = .ok (.iconst 0, 1) := by decide +kernel
theorem dL_law_2038 : decode cL_law 2038 = .ok (.laload, 1) := by decide +kernel
theorem dL_law_2039 : decode cL_law 2039 = .ok (.iload 7, 2) := by decide +kernel
theorem dL_law_2041 : decode cL_law 2041 = .ok (.i2l, 1) := by decide +kernel
theorem dL_law_2042 : decode cL_law 2042 = .ok (.lcmp, 1) := by decide +kernel
theorem dL_law_2043 : decode cL_law 2043 = .ok (.ifCond .eq 5, 3) := by decide +kernel
theorem dL_law_2048 : decode cL_law 2048 = .ok (.goto 730, 3) := by decide +kernel
theorem dL_law_2051 : decode cL_law 2051 = .ok (.aload_n 1, 1) := by decide +kernel
set_option maxRecDepth 20000 in
theorem ggL_law_X11_uncount : GoodIn wsL_law wsX11_uncount := goodIn_r _ [1348, 29, 1334, 1847, 1848, 1849, 1850, 1851, 1852, 1853, 1890, 1891, 1892, 1893, 1894, 1895] (by decide +kernel) (by decide +kernel)
set_option maxRecDepth 20000 in
theorem gL_law_X11_uncount : GoodIn wsL_law (wsV RL 242 RX11 yX11_uncount wsX11_uncount) := goodIn_app (goodIn_of _ (by decide +kernel)) ggL_law_X11_uncount
theorem dL_law_2052 : decode cL_law 2052 = .ok (.invokevirtual 242, 3) := by decide +kernel
theorem dL_law_2055 : decode cL_law 2055 = .ok (.aload_n 2, 1) := by decide +kernel
set_option maxRecDepth 20000 in
theorem ggL_law_X15_uncount : GoodIn wsL_law wsX15_uncount := goodIn_r _ [1352, 240, 182, 247, 248, 249, 180, 250, 251, 1353, 1354, 1355, 1356, 269, 270, 193, 1854, 1855, 1856, 1857, 1858, 1859, 1860, 1861, 1862, 1863, 1864, 1865, 1866, 1867, 1868, 1869, 1870, 1871, 1872, 1873, 1874, 1955, 1956, 1957] (by decide +kernel) (by decide +kernel)
set_option maxRecDepth 20000 in
theorem gL_law_X15_uncount : GoodIn wsL_law (wsV RL 245 RX15 yX15_uncount wsX15_uncount) := goodIn_app (goodIn_of _ (by decide +kernel)) ggL_law_X15_uncount
theorem dL_law_2056 : decode cL_law 2056 = .ok (.invokevirtual 245, 3) := by decide +kernel
theorem dL_law_2059 : decode cL_law 2059 = .ok (.if_icmp .eq 719, 3) := by decide +kernel
theorem dL_law_2064 : decode cL_law 2064 = .ok (.aload_n 1, 1) := by decide +kernel
theorem dL_law_2065 : decode cL_law 2065 = .ok (.aload_n 0, 1) := by decide +kernel
theorem dL_law_2066 : decode cL_law 2066 = .ok (.iload 5, 2) := by decide +kernel
theorem dL_law_2068 : decode cL_law 2068 = .ok (.iconst 1, 1) := by decide +kernel
theorem dL_law_2069 : decode cL_law 2069 = .ok (.iadd, 1) := by decide +kernel
theorem dL_law_2070 : decode cL_law 2070 = .ok (.iaload, 1) := by decide +kernel
theorem dL_law_2071 : decode cL_law 2071 = .ok (.aload_n 0, 1) := by decide +kernel
theorem dL_law_2072 : decode cL_law 2072 = .ok (.iload 5, 2) := by decide +kernel
theorem dL_law_2074 : decode cL_law 2074 = .ok (.iconst 2, 1) := by decide +kernel
theorem dL_law_2075 : decode cL_law 2075 = .ok (.iadd, 1) := by decide +kernel
theorem dL_law_2076 : decode cL_law 2076 = .ok (.iaload, 1) := by decide +kernel
theorem dL_law_2077 : decode cL_law 2077 = .ok (.aload_n 0, 1) := by decide +kernel
theorem dL_law_2078 : decode cL_law 2078 = .ok (.iload 5, 2) := by decide +kernel
theorem dL_law_2080 : decode cL_law 2080 = .ok (.iconst 3, 1) := by decide +kernel
theorem dL_law_2081 : decode cL_law 2081 = .ok (.iadd, 1) := by decide +kernel
theorem dL_law_2082 : decode cL_law 2082 = .ok (.iaload, 1) := by decide +kernel
theorem dL_law_2083 : decode cL_law 2083 = .ok (.aload_n 3, 1) := by decide +kernel
set_option maxRecDepth 20000 in
theorem ggL_law_L_runCounters : GoodIn wsL_law wsL_runCounters := goodIn_ca (goodIn_ca (goodIn_r _ [1359, 208, 1360, 1361, 1362, 2, 1363, 29, 219, 220, 221, 214, 215, 216, 217, 218, 1364, 1365, 1366, 28, 1367, 150, 149, 1368, 467, 299, 468, 352, 353, 1369, 1370, 1371, 1372, 152, 151, 153, 154, 728, 729, 1847, 1848, 1849, 1850, 1851, 1852, 1853, 1890, 1891, 1892, 1893, 1894, 1895] (by decide +kernel) (by decide +kernel)) (goodIn_sub (fun _ h => List.mem_append_left _ (List.mem_append_left _ (List.mem_append_left _ (List.mem_append_left _ (List.mem_append_left _ (List.mem_append_left _ (List.mem_append_left _ (List.mem_append_right _ h)))))))) (by decide +kernel))) (goodIn_sub (fun _ h => List.mem_append_left _ (List.mem_append_left _ (List.mem_append_left _ (List.mem_append_left _ (List.mem_append_left _ (List.mem_append_left _ (List.mem_append_right _ h))))))) (by decide +kernel))
set_option maxRecDepth 20000 in
theorem gL_law_L_runCounters : GoodIn wsL_law (va_wsS RL 246 yL_runCounters wsL_runCounters) := goodIn_app (goodIn_of _ (by decide +kernel)) ggL_law_L_runCounters
theorem dL_law_2084 : decode cL_law 2084 = .ok (.invokestatic 246, 3) := by decide +kernel
theorem dL_law_2087 : decode cL_law 2087 = .ok (.istore 6, 2) := by decide +kernel
theorem dL_law_2089 : decode cL_law 2089 = .ok (.aload_n 2, 1) := by decide +kernel
theorem dL_law_2090 : decode cL_law 2090 = .ok (.aload_n 0, 1) := by decide +kernel
theorem dL_law_2091 : decode cL_law 2091 = .ok (.iload 5, 2) := by decide +kernel
theorem dL_law_2093 : decode cL_law 2093 = .ok (.iconst 1, 1) := by decide +kernel
theorem dL_law_2094 : decode cL_law 2094 = .ok (.iadd, 1) := by decide +kernel
theorem dL_law_2095 : decode cL_law 2095 = .ok (.iaload, 1) := by decide +kernel
theorem dL_law_2096 : decode cL_law 2096 = .ok (.aload_n 0, 1) := by decide +kernel
theorem dL_law_2097 : decode cL_law 2097 = .ok (.iload 5, 2) := by decide +kernel
theorem dL_law_2099 : decode cL_law 2099 = .ok (.iconst 2, 1) := by decide +kernel
theorem dL_law_2100 : decode cL_law 2100 = .ok (.iadd, 1) := by decide +kernel
theorem dL_law_2101 : decode cL_law 2101 = .ok (.iaload, 1) := by decide +kernel
theorem dL_law_2102 : decode cL_law 2102 = .ok (.aload_n 0, 1) := by decide +kernel
theorem dL_law_2103 : decode cL_law 2103 = .ok (.iload 5, 2) := by decide +kernel
theorem dL_law_2105 : decode cL_law 2105 = .ok (.iconst 3, 1) := by decide +kernel
theorem dL_law_2106 : decode cL_law 2106 = .ok (.iadd, 1) := by decide +kernel
theorem dL_law_2107 : decode cL_law 2107 = .ok (.iaload, 1) := by decide +kernel
set_option maxRecDepth 20000 in
theorem ggL_law_X15_runCounters : GoodIn wsL_law wsX15_runCounters := goodIn_ca (goodIn_r _ [1376, 1377, 498, 240, 183, 182, 1378, 244, 245, 5, 246, 247, 248, 249, 180, 250, 251, 367, 368, 369, 370, 371, 372, 373, 374, 375, 376, 377, 378, 379, 380, 381, 382, 193, 1854, 1855, 1856, 1857, 1858, 1859, 1860, 1861, 1862, 1863, 1864, 1865, 1866, 1867, 1868, 1869, 1870, 1871, 1872, 1873, 1874, 1955, 1956, 1957] (by decide +kernel) (by decide +kernel)) (goodIn_sub (fun _ h => List.mem_append_left _ (List.mem_append_left _ (List.mem_append_left _ (List.mem_append_left _ (List.mem_append_left _ (List.mem_append_left _ (List.mem_append_left _ (List.mem_append_right _ h)))))))) (by decide +kernel))
set_option maxRecDepth 20000 in
theorem gL_law_X15_runCounters : GoodIn wsL_law (wsV RL 248 RX15 yX15_runCounters wsX15_runCounters) := goodIn_app (goodIn_of _ (by decide +kernel)) ggL_law_X15_runCounters
theorem dL_law_2108 : decode cL_law 2108 = .ok (.invokevirtual 248, 3) := by decide +kernel
theorem dL_law_2111 : decode cL_law 2111 = .ok (.istore 7, 2) := by decide +kernel
theorem dL_law_2113 : decode cL_law 2113 = .ok (.aload_n 2, 1) := by decide +kernel
theorem dL_law_2114 : decode cL_law 2114 = .ok (.invokevirtual 152, 3) := by decide +kernel
theorem dL_law_2117 : decode cL_law 2117 = .ok (.iload 6, 2) := by decide +kernel
theorem dL_law_2119 : decode cL_law 2119 = .ok (.if_icmp .eq 5, 3) := by decide +kernel
theorem dL_law_2124 : decode cL_law 2124 = .ok (.iload 6, 2) := by decide +kernel
theorem dL_law_2126 : decode cL_law 2126 = .ok (.ifCond .ne 15, 3) := by decide +kernel
theorem dL_law_2129 : decode cL_law 2129 = .ok (.aload_n 3, 1) := by decide +kernel
theorem dL_law_2130 : decode cL_law 2130 = .ok (.iconst 0, 1) := by decide +kernel
theorem dL_law_2131 : decode cL_law 2131 = .ok (.laload, 1) := by decide +kernel
theorem dL_law_2132 : decode cL_law 2132 = .ok (.iload 7, 2) := by decide +kernel
theorem dL_law_2134 : decode cL_law 2134 = .ok (.i2l, 1) := by decide +kernel
theorem dL_law_2135 : decode cL_law 2135 = .ok (.lcmp, 1) := by decide +kernel
theorem dL_law_2136 : decode cL_law 2136 = .ok (.ifCond .eq 5, 3) := by decide +kernel
theorem dL_law_2141 : decode cL_law 2141 = .ok (.goto 637, 3) := by decide +kernel
theorem dL_law_2144 : decode cL_law 2144 = .ok (.aload_n 1, 1) := by decide +kernel
theorem dL_law_2145 : decode cL_law 2145 = .ok (.aload_n 0, 1) := by decide +kernel
theorem dL_law_2146 : decode cL_law 2146 = .ok (.iload 5, 2) := by decide +kernel
theorem dL_law_2148 : decode cL_law 2148 = .ok (.iconst 1, 1) := by decide +kernel
theorem dL_law_2149 : decode cL_law 2149 = .ok (.iadd, 1) := by decide +kernel
theorem dL_law_2150 : decode cL_law 2150 = .ok (.iaload, 1) := by decide +kernel
theorem dL_law_2151 : decode cL_law 2151 = .ok (.aload_n 3, 1) := by decide +kernel
set_option maxRecDepth 20000 in
theorem ggL_law_L_register : GoodIn wsL_law wsL_register := goodIn_ca (goodIn_ca (goodIn_r _ [1381, 324, 1382, 1383, 1384, 2, 1385, 334, 335, 29, 1386, 219, 220, 221, 1387, 728, 729, 1847, 1848, 1849, 1850, 1851, 1852, 1853, 1890, 1891, 1892, 1893, 1894, 1895] (by decide +kernel) (by decide +kernel)) (goodIn_sub (fun _ h => List.mem_append_left _ (List.mem_append_left _ (List.mem_append_left _ (List.mem_append_left _ (List.mem_append_left _ (List.mem_append_left _ (List.mem_append_left _ (List.mem_append_right _ h)))))))) (by decide +kernel))) (goodIn_sub (fun _ h => List.mem_append_left _ (List.mem_append_left _ (List.mem_append_left _ (List.mem_append_left _ (List.mem_append_right _ h))))) (by decide +kernel))
set_option maxRecDepth 20000 in
theorem gL_law_L_register : GoodIn wsL_law (va_wsS RL 249 yL_register wsL_register) := goodIn_app (goodIn_of _ (by decide +kernel)) ggL_law_L_register
theorem dL_law_2152 : decode cL_law 2152 = .ok (.invokestatic 249, 3) := by decide +kernel
theorem dL_law_2155 : decode cL_law 2155 = .ok (.istore 6, 2) := by decide +kernel
theorem dL_law_2157 : decode cL_law 2157 = .ok (.aload_n 2, 1) := by decide +kernel
theorem dL_law_2158 : decode cL_law 2158 = .ok (.aload_n 0, 1) := by decide +kernel
theorem dL_law_2159 : decode cL_law 2159 = .ok (.iload 5, 2) := by decide +kernel
theorem dL_law_2161 : decode cL_law 2161 = .ok (.iconst 1, 1) := by decide +kernel
theorem dL_law_2162 : decode cL_law 2162 = .ok (.iadd, 1) := by decide +kernel
theorem dL_law_2163 : decode cL_law 2163 = .ok (.iaload, 1) := by decide +kernel
set_option maxRecDepth 20000 in
theorem ggL_law_X15_register : GoodIn wsL_law wsX15_register := goodIn_ca (goodIn_r _ [1391, 1262, 240, 183, 244, 245, 5, 246, 1854, 1855, 1856, 1857, 1858, 1859, 1860, 1861, 1862, 1863, 1864, 1865, 1866, 1867, 1868, 1869, 1870, 1871, 1872, 1873, 1874] (by decide +kernel) (by decide +kernel)) (goodIn_sub (fun _ h => List.mem_append_left _ (List.mem_append_left _ (List.mem_append_left _ (List.mem_append_left _ (List.mem_append_left _ (List.mem_append_left _ (List.mem_append_left _ (List.mem_append_right _ h)))))))) (by decide +kernel))
set_option maxRecDepth 20000 in
theorem gL_law_X15_register : GoodIn wsL_law (wsV RL 251 RX15 yX15_register wsX15_register) := goodIn_app (goodIn_of _ (by decide +kernel)) ggL_law_X15_register
theorem dL_law_2164 : decode cL_law 2164 = .ok (.invokevirtual 251, 3) := by decide +kernel
theorem dL_law_2167 : decode cL_law 2167 = .ok (.istore 7, 2) := by decide +kernel
theorem dL_law_2169 : decode cL_law 2169 = .ok (.aload_n 2, 1) := by decide +kernel
theorem dL_law_2170 : decode cL_law 2170 = .ok (.invokevirtual 152, 3) := by decide +kernel
theorem dL_law_2173 : decode cL_law 2173 = .ok (.iload 6, 2) := by decide +kernel
theorem dL_law_2175 : decode cL_law 2175 = .ok (.if_icmp .eq 5, 3) := by decide +kernel
theorem dL_law_2180 : decode cL_law 2180 = .ok (.iload 6, 2) := by decide +kernel
theorem dL_law_2182 : decode cL_law 2182 = .ok (.ifCond .ne 15, 3) := by decide +kernel
theorem dL_law_2185 : decode cL_law 2185 = .ok (.aload_n 3, 1) := by decide +kernel
theorem dL_law_2186 : decode cL_law 2186 = .ok (.iconst 0, 1) := by decide +kernel
theorem dL_law_2187 : decode cL_law 2187 = .ok (.laload, 1) := by decide +kernel
theorem dL_law_2188 : decode cL_law 2188 = .ok (.iload 7, 2) := by decide +kernel
theorem dL_law_2190 : decode cL_law 2190 = .ok (.i2l, 1) := by decide +kernel
theorem dL_law_2191 : decode cL_law 2191 = .ok (.lcmp, 1) := by decide +kernel
theorem dL_law_2192 : decode cL_law 2192 = .ok (.ifCond .eq 5, 3) := by decide +kernel
theorem dL_law_2197 : decode cL_law 2197 = .ok (.goto 581, 3) := by decide +kernel
theorem dL_law_2200 : decode cL_law 2200 = .ok (.aload_n 1, 1) := by decide +kernel
theorem dL_law_2201 : decode cL_law 2201 = .ok (.aload_n 0, 1) := by decide +kernel
theorem dL_law_2202 : decode cL_law 2202 = .ok (.iload 5, 2) := by decide +kernel
theorem dL_law_2204 : decode cL_law 2204 = .ok (.iconst 1, 1) := by decide +kernel
theorem dL_law_2205 : decode cL_law 2205 = .ok (.iadd, 1) := by decide +kernel
theorem dL_law_2206 : decode cL_law 2206 = .ok (.iaload, 1) := by decide +kernel
theorem dL_law_2207 : decode cL_law 2207 = .ok (.i2c, 1) := by decide +kernel
theorem dL_law_2208 : decode cL_law 2208 = .ok (.aload_n 0, 1) := by decide +kernel
theorem dL_law_2209 : decode cL_law 2209 = .ok (.iload 5, 2) := by decide +kernel
theorem dL_law_2211 : decode cL_law 2211 = .ok (.iconst 2, 1) := by decide +kernel
theorem dL_law_2212 : decode cL_law 2212 = .ok (.iadd, 1) := by decide +kernel
theorem dL_law_2213 : decode cL_law 2213 = .ok (.iaload, 1) := by decide +kernel
theorem dL_law_2214 : decode cL_law 2214 = .ok (.i2c, 1) := by decide +kernel
theorem dL_law_2215 : decode cL_law 2215 = .ok (.aload_n 3, 1) := by decide +kernel
set_option maxRecDepth 20000 in
theorem ggL_law_L_tagRow : GoodIn wsL_law wsL_tagRow := goodIn_ca (goodIn_ca (goodIn_ca (goodIn_r _ [1394, 208, 209, 1395, 1396, 1397, 2, 1398, 226, 227, 33, 219, 220, 221, 214, 215, 216, 217, 218, 1399, 1400, 1401, 32, 1402, 162, 728, 729, 1403, 1404, 1405, 1406, 161, 352, 353, 1847, 1848, 1849, 1850, 1851, 1852, 1853, 1896, 1897, 1898, 1899, 1900, 1901] (by decide +kernel) (by decide +kernel)) (goodIn_sub (fun _ h => List.mem_append_left _ (List.mem_append_left _ (List.mem_append_left _ (List.mem_append_left _ (List.mem_append_left _ (List.mem_append_left _ (List.mem_append_left _ (List.mem_append_right _ h)))))))) (by decide +kernel))) (goodIn_sub (fun _ h => List.mem_append_left _ (List.mem_append_left _ (List.mem_append_left _ (List.mem_append_left _ (List.mem_append_left _ (List.mem_append_right _ h)))))) (by decide +kernel))) (goodIn_sub (fun _ h => List.mem_append_left _ (List.mem_append_left _ (List.mem_append_left _ (List.mem_append_left _ (List.mem_append_left _ (List.mem_append_left _ (List.mem_append_right _ h))))))) (by decide +kernel))
set_option maxRecDepth 20000 in
theorem gL_law_L_tagRow : GoodIn wsL_law (va_wsS RL 252 yL_tagRow wsL_tagRow) := goodIn_app (goodIn_of _ (by decide +kernel)) ggL_law_L_tagRow
theorem dL_law_2216 : decode cL_law 2216 = .ok (.invokestatic 252, 3) := by decide +kernel
theorem dL_law_2219 : decode cL_law 2219 = .ok (.istore 6, 2) := by decide +kernel
theorem dL_law_2221 : decode cL_law 2221 = .ok (.aload_n 2, 1) := by decide +kernel
theorem dL_law_2222 : decode cL_law 2222 = .ok (.aload_n 0, 1) := by decide +kernel
theorem dL_law_2223 : decode cL_law 2223 = .ok (.iload 5, 2) := by decide +kernel
theorem dL_law_2225 : decode cL_law 2225 = .ok (.iconst 1, 1) := by decide +kernel
theorem dL_law_2226 : decode cL_law 2226 = .ok (.iadd, 1) := by decide +kernel
theorem dL_law_2227 : decode cL_law 2227 = .ok (.iaload, 1) := by decide +kernel
theorem dL_law_2228 : decode cL_law 2228 = .ok (.i2c, 1) := by decide +kernel
theorem dL_law_2229 : decode cL_law 2229 = .ok (.aload_n 0, 1) := by decide +kernel
theorem dL_law_2230 : decode cL_law 2230 = .ok (.iload 5, 2) := by decide +kernel
theorem dL_law_2232 : decode cL_law 2232 = .ok (.iconst 2, 1) := by decide +kernel
theorem dL_law_2233 : decode cL_law 2233 = .ok (.iadd, 1) := by decide +kernel
theorem dL_law_2234 : decode cL_law 2234 = .ok (.iaload, 1) := by decide +kernel
theorem dL_law_2235 : decode cL_law 2235 = .ok (.i2c, 1) := by decide +kernel
set_option maxRecDepth 20000 in
theorem ggL_law_X15_tagRow : GoodIn wsL_law wsX15_tagRow := goodIn_r _ [1410, 1411, 1195, 185, 240, 1412, 1413, 1414, 244, 245, 5, 246, 1415, 589, 590, 575, 591, 581, 592, 593, 594, 595, 586, 587, 1416, 1417, 1418, 1419, 1420, 1421, 1422, 1423, 13, 14, 1424, 1425, 1426, 1427, 1428, 1429, 610, 1430, 1431, 1432, 1433, 1434, 1435, 1436, 1437, 1438, 1439, 1440, 1441, 1442, 1443, 1444, 1445, 1446, 1447, 1448, 1449, 1450, 1451, 1452, 1453, 1454, 1455, 1456, 1457, 1458, 1459, 1460, 1461, 289, 290, 291, 292, 284, 285, 286, 293, 294, 295, 296, 1462, 1463, 299, 1464, 1465, 1466, 1467, 1468, 1469, 1470, 310, 311, 312, 313, 314, 315, 316, 1471, 1472, 1473, 1474, 1475, 1476, 1477, 1478, 637, 618, 619, 620, 621, 622, 623, 624, 625, 626, 627, 628, 629, 377, 630, 1479, 1480, 1481, 638, 639, 1482, 1483, 1484, 1485, 1486, 1487, 1488, 1489, 1490, 1491, 1492, 1493, 1494, 1495, 1496, 1497, 1498, 1499, 1500, 598, 1501, 1502, 1503, 1504, 1505, 1506, 1507, 1508, 1509, 1510, 1511, 1512, 1513, 1514, 1515, 1516, 1517, 1518, 1519, 1520, 1521, 1522, 1523, 1524, 1525, 1526, 1527, 1528, 1529, 1530, 1531, 1532, 1533, 1534, 1535, 1536, 1537, 1538, 1539, 1540, 376, 378, 1541, 1542, 1543, 1544, 1545, 1546, 1547, 1548, 1549, 1550, 1551, 1552, 1553, 1554, 1555, 1556, 1557, 1558, 1559, 1560, 1561, 1562, 1563, 1564, 1565, 1566, 1567, 1568, 1569, 1570, 1571, 1572, 1573, 1574, 1575, 1576, 1577, 1578, 1579, 1580, 1581, 1582, 1583, 1584, 1585, 634, 635, 636, 1586, 1587, 1588, 1589, 1854, 1855, 1856, 1857, 1858, 1859, 1860, 1861, 1862, 1863, 1864, 1865, 1866, 1867, 1868, 1869, 1870, 1871, 1872, 1873, 1874, 1998, 1999, 2000, 2001, 1979, 1980, 1981, 1982] (by decide +kernel) (by decide +kernel)
set_option maxRecDepth 20000 in
theorem gL_law_X15_tagRow : GoodIn wsL_law (wsV RL 255 RX15 yX15_tagRow wsX15_tagRow) := goodIn_app (goodIn_of _ (by decide +kernel)) ggL_law_X15_tagRow
theorem dL_law_2236 : decode cL_law 2236 = .ok (.invokevirtual 255, 3) := by decide +kernel
theorem dL_law_2239 : decode cL_law 2239 = .ok (.istore 7, 2) := by decide +kernel
theorem dL_law_2241 : decode cL_law 2241 = .ok (.aload_n 2, 1) := by decide +kernel
theorem dL_law_2242 : decode cL_law 2242 = .ok (.invokevirtual 152, 3) := by decide +kernel
theorem dL_law_2245 : decode cL_law 2245 = .ok (.iload 6, 2) := by decide +kernel
theorem dL_law_2247 : decode cL_law 2247 = .ok (.if_icmp .eq 5, 3) := by decide +kernel
theorem dL_law_2252 : decode cL_law 2252 = .ok (.iload 6, 2) := by decide +kernel
theorem dL_law_2254 : decode cL_law 2254 = .ok (.ifCond .ne 15, 3) := by decide +kernel
theorem dL_law_2257 : decode cL_law 2257 = .ok (.aload_n 3, 1) := by decide +kernel
theorem dL_law_2258 : decode cL_law 2258 = .ok (.iconst 0, 1) := by decide +kernel
theorem dL_law_2259 : decode cL_law 2259 = .ok (.laload, 1) := by decide +kernel
theorem dL_law_2260 : decode cL_law 2260 = .ok (.iload 7, 2) := by decide +kernel
theorem dL_law_2262 : decode cL_law 2262 = .ok (.i2l, 1) := by decide +kernel
theorem dL_law_2263 : decode cL_law 2263 = .ok (.lcmp, 1) := by decide +kernel
theorem dL_law_2264 : decode cL_law 2264 = .ok (.ifCond .eq 5, 3) := by decide +kernel
theorem dL_law_2269 : decode cL_law 2269 = .ok (.goto 509, 3) := by decide +kernel
theorem dL_law_2272 : decode cL_law 2272 = .ok (.aload_n 1, 1) := by decide +kernel
theorem dL_law_2273 : decode cL_law 2273 = .ok (.aload_n 0, 1) := by decide +kernel
theorem dL_law_2274 : decode cL_law 2274 = .ok (.iload 5, 2) := by decide +kernel
theorem dL_law_2276 : decode cL_law 2276 = .ok (.iconst 1, 1) := by decide +kernel
theorem dL_law_2277 : decode cL_law 2277 = .ok (.iadd, 1) := by decide +kernel
theorem dL_law_2278 : decode cL_law 2278 = .ok (.iaload, 1) := by decide +kernel
theorem dL_law_2279 : decode cL_law 2279 = .ok (.i2c, 1) := by decide +kernel
theorem dL_law_2280 : decode cL_law 2280 = .ok (.aload_n 3, 1) := by decide +kernel
set_option maxRecDepth 20000 in
theorem ggL_law_L_tagStart : GoodIn wsL_law wsL_tagStart := goodIn_ca (goodIn_ca (goodIn_ca (goodIn_r _ [1592, 208, 209, 1593, 1594, 1595, 2, 1596, 226, 227, 33, 1597, 219, 220, 221, 214, 215, 216, 217, 218, 1598, 1599, 1600, 32, 1601, 158, 160, 352, 353, 1847, 1848, 1849, 1850, 1851, 1852, 1853, 1896, 1897, 1898, 1899, 1900, 1901] (by decide +kernel) (by decide +kernel)) (goodIn_sub (fun _ h => List.mem_append_left _ (List.mem_append_left _ (List.mem_append_left _ (List.mem_append_left _ (List.mem_append_left _ (List.mem_append_left _ (List.mem_append_left _ (List.mem_append_right _ h)))))))) (by decide +kernel))) (goodIn_sub (fun _ h => List.mem_append_left _ (List.mem_append_left _ (List.mem_append_left _ (List.mem_append_left _ (List.mem_append_left _ (List.mem_append_right _ h)))))) (by decide +kernel))) (goodIn_sub (fun _ h => List.mem_append_left _ (List.mem_append_left _ (List.mem_append_left _ (List.mem_append_left _ (List.mem_append_left _ (List.mem_append_left _ (List.mem_append_right _ h))))))) (by decide +kernel))
set_option maxRecDepth 20000 in
theorem gL_law_L_tagStart : GoodIn wsL_law (va_wsS RL 256 yL_tagStart wsL_tagStart) := goodIn_app (goodIn_of _ (by decide +kernel)) ggL_law_L_tagStart
theorem dL_law_2281 : decode cL_law 2281 = .ok (.invokestatic 256, 3) := by decide +kernel
theorem dL_law_2284 : decode cL_law 2284 = .ok (.istore 6, 2) := by decide +kernel
theorem dL_law_2286 : decode cL_law 2286 = .ok (.aload_n 2, 1) := by decide +kernel
theorem dL_law_2287 : decode cL_law 2287 = .ok (.aload_n 0, 1) := by decide +kernel
theorem dL_law_2288 : decode cL_law 2288 = .ok (.iload 5, 2) := by decide +kernel
theorem dL_law_2290 : decode cL_law 2290 = .ok (.iconst 1, 1) := by decide +kernel
theorem dL_law_2291 : decode cL_law 2291 = .ok (.iadd, 1) := by decide +kernel
theorem dL_law_2292 : decode cL_law 2292 = .ok (.iaload, 1) := by decide +kernel
theorem dL_law_2293 : decode cL_law 2293 = .ok (.i2c, 1) := by decide +kernel
set_option maxRecDepth 20000 in
theorem ggL_law_X15_tagStart : GoodIn wsL_law wsX15_tagStart := goodIn_r _ [1605, 1411, 1195, 186, 240, 1412, 1413, 1414, 244, 245, 5, 246, 1415, 589, 590, 575, 591, 581, 592, 593, 594, 595, 586, 587, 1416, 1417, 1418, 1419, 1420, 1421, 1422, 1423, 13, 14, 1424, 1425, 1426, 1427, 1428, 1429, 610, 1430, 1431, 1432, 1433, 1434, 1435, 1436, 1437, 1438, 1439, 1440, 1441, 1442, 1443, 1444, 1445, 1446, 1447, 1448, 1449, 1450, 1451, 1452, 1453, 1454, 1455, 1456, 1457, 1458, 1459, 1460, 1461, 289, 290, 291, 292, 284, 285, 286, 293, 294, 295, 296, 1462, 1463, 299, 1464, 1465, 1466, 1467, 1468, 1469, 1470, 310, 311, 312, 313, 314, 315, 316, 1471, 1472, 1473, 1474, 1475, 1476, 1477, 1478, 637, 618, 619, 620, 621, 622, 623, 624, 625, 626, 627, 628, 629, 377, 630, 1479, 1480, 1481, 638, 639, 1482, 1483, 1484, 1485, 1486, 1487, 1488, 1489, 1490, 1491, 1492, 1493, 1494, 1495, 1496, 1497, 1498, 1499, 1500, 598, 1501, 1502, 1503, 1504, 1505, 1506, 1507, 1508, 1509, 1510, 1511, 1512, 1513, 1514, 1515, 1516, 1517, 1518, 1519, 1520, 1521, 1522, 1523, 1524, 1525, 1526, 1527, 1528, 1529, 1530, 1531, 1532, 1533, 1534, 1535, 1536, 1537, 1538, 1539, 1540, 376, 378, 1541, 1542, 1543, 1544, 1545, 1546, 1547, 1548, 1549, 1550, 1551, 1552, 1553, 1554, 1555, 1556, 1557, 1558, 1559, 1560, 1561, 1562, 1563, 1564, 1565, 1566, 1567, 1568, 1569, 1570, 1571, 1572, 1573, 1574, 1575, 1576, 1577, 1578, 1579, 1580, 1581, 1582, 1583, 1584, 1585, 634, 635, 636, 1586, 1587, 1588, 1589, 1854, 1855, 1856, 1857, 1858, 1859, 1860, 1861, 1862, 1863, 1864, 1865, 1866, 1867, 1868, 1869, 1870, 1871, 1872, 1873, 1874, 1998, 1999, 2000, 2001, 1979, 1980, 1981, 1982] (by decide +kernel) (by decide +kernel)
set_option maxRecDepth 20000 in
theorem gL_law_X15_tagStart : GoodIn wsL_law (wsV RL 258 RX15 yX15_tagStart wsX15_tagStart) := goodIn_app (goodIn_of _ (by decide +kernel)) ggL_law_X15_tagStart
theorem dL_law_2294 : decode cL_law 2294 = .ok (.invokevirtual 258, 3) := by decide +kernel
theorem dL_law_2297 : decode cL_law 2297 = .ok (.istore 7, 2) := by decide +kernel
theorem dL_law_2299 : decode cL_law 2299 = .ok (.aload_n 2, 1) := by decide +kernel
theorem dL_law_2300 : decode cL_law 2300 = .ok (.invokevirtual 152, 3) := by decide +kernel
theorem dL_law_2303 : decode cL_law 2303 = .ok (.iload 6, 2) := by decide +kernel
theorem dL_law_2305 : decode cL_law 2305 = .ok (.if_icmp .eq 5, 3) := by decide +kernel
theorem dL_law_2310 : decode cL_law 2310 = .ok (.iload 6, 2) := by decide +kernel
theorem dL_law_2312 : decode cL_law 2312 = .ok (.ifCond .ne 15, 3) := by decide +kernel
theorem dL_law_2315 : decode cL_law 2315 = .ok (.aload_n 3, 1) := by decide +kernel
theorem dL_law_2316 : decode cL_law 2316 = .ok (.iconst 0, 1) := by decide +kernel
theorem dL_law_2317 : decode cL_law 2317 = .ok (.laload, 1) := by decide +kernel
theorem dL_law_2318 : decode cL_law 2318 = .ok (.iload 7, 2) := by decide +kernel
theorem dL_law_2320 : decode cL_law 2320 = .ok (.i2l, 1) := by decide +kernel
theorem dL_law_2321 : decode cL_law 2321 = .ok (.lcmp, 1) := by decide +kernel
theorem dL_law_2322 : decode cL_law 2322 = .ok (.ifCond .eq 5, 3) := by decide +kernel
theorem dL_law_2327 : decode cL_law 2327 = .ok (.goto 451, 3) := by decide +kernel
theorem dL_law_2330 : decode cL_law 2330 = .ok (.aload_n 1, 1) := by decide +kernel
set_option maxRecDepth 20000 in
theorem ggL_law_X11_untag : GoodIn wsL_law wsX11_untag := goodIn_ca (goodIn_r _ [1609, 33, 1610, 1611, 1612, 32, 1613, 158, 162, 1614, 467, 299, 468, 1847, 1848, 1849, 1850, 1851, 1852, 1853, 1896, 1897, 1898, 1899, 1900, 1901] (by decide +kernel) (by decide +kernel)) (goodIn_sub (fun _ h => List.mem_append_left _ (List.mem_append_left _ (List.mem_append_left _ (List.mem_append_left _ (List.mem_append_left _ (List.mem_append_left _ (List.mem_append_left _ (List.mem_append_right _ h)))))))) (by decide +kernel))
set_option maxRecDepth 20000 in
theorem gL_law_X11_untag : GoodIn wsL_law (wsV RL 259 RX11 yX11_untag wsX11_untag) := goodIn_app (goodIn_of _ (by decide +kernel)) ggL_law_X11_untag
theorem dL_law_2331 : decode cL_law 2331 = .ok (.invokevirtual 259, 3) := by decide +kernel
theorem dL_law_2334 : decode cL_law 2334 = .ok (.aload_n 2, 1) := by decide +kernel
set_option maxRecDepth 20000 in
theorem ggL_law_X15_untag : GoodIn wsL_law wsX15_untag := goodIn_r _ [1618, 240, 186, 185, 1415, 589, 590, 575, 591, 581, 592, 593, 594, 595, 586, 587, 1854, 1855, 1856, 1857, 1858, 1859, 1860, 1861, 1862, 1863, 1864, 1865, 1866, 1867, 1868, 1869, 1870, 1871, 1872, 1873, 1874, 1979, 1980, 1981, 1982] (by decide +kernel) (by decide +kernel)
set_option maxRecDepth 20000 in
theorem gL_law_X15_untag : GoodIn wsL_law (wsV RL 262 RX15 yX15_untag wsX15_untag) := goodIn_app (goodIn_of _ (by decide +kernel)) ggL_law_X15_untag
theorem dL_law_2335 : decode cL_law 2335 = .ok (.invokevirtual 262, 3) := by decide +kernel
theorem dL_law_2338 : decode cL_law 2338 = .ok (.if_icmp .eq 440, 3) := by decide +kernel
theorem dL_law_2343 : decode cL_law 2343 = .ok (.aload_n 1, 1) := by decide +kernel
theorem dL_law_2344 : decode cL_law 2344 = .ok (.aload_n 0, 1) := by decide +kernel
theorem dL_law_2345 : decode cL_law 2345 = .ok (.iload 5, 2) := by decide +kernel
theorem dL_law_2347 : decode cL_law 2347 = .ok (.iconst 1, 1) := by decide +kernel
theorem dL_law_2348 : decode cL_law 2348 = .ok (.iadd, 1) := by decide +kernel
theorem dL_law_2349 : decode cL_law 2349 = .ok (.iaload, 1) := by decide +kernel
theorem dL_law_2350 : decode cL_law 2350 = .ok (.aload_n 0, 1) := by decide +kernel
theorem dL_law_2351 : decode cL_law 2351 = .ok (.iload 5, 2) := by decide +kernel
theorem dL_law_2353 : decode cL_law 2353 = .ok (.iconst 2, 1) := by decide +kernel
theorem dL_law_2354 : decode cL_law 2354 = .ok (.iadd, 1) := by decide +kernel
theorem dL_law_2355 : decode cL_law 2355 = .ok (.iaload, 1) := by decide +kernel
theorem dL_law_2356 : decode cL_law 2356 = .ok (.aload_n 3, 1) := by decide +kernel
set_option maxRecDepth 20000 in
theorem ggL_law_L_tag : GoodIn wsL_law wsL_tag := goodIn_ca (goodIn_ca (goodIn_r _ [1621, 208, 1622, 1623, 1624, 2, 1625, 33, 214, 215, 216, 217, 218, 219, 220, 221, 1626, 1627, 1628, 32, 1629, 158, 159, 160, 163, 1630, 314, 315, 316, 1631, 1632, 1633, 1634, 162, 161, 728, 729, 352, 353, 1847, 1848, 1849, 1850, 1851, 1852, 1853, 1896, 1897, 1898, 1899, 1900, 1901] (by decide +kernel) (by decide +kernel)) (goodIn_sub (fun _ h => List.mem_append_left _ (List.mem_append_left _ (List.mem_append_left _ (List.mem_append_left _ (List.mem_append_left _ (List.mem_append_left _ (List.mem_append_left _ (List.mem_append_right _ h)))))))) (by decide +kernel))) (goodIn_sub (fun _ h => List.mem_append_left _ (List.mem_append_left _ (List.mem_append_left _ (List.mem_append_left _ (List.mem_append_left _ (List.mem_append_left _ (List.mem_append_right _ h))))))) (by decide +kernel))
set_option maxRecDepth 20000 in
theorem gL_law_L_tag : GoodIn wsL_law (va_wsS RL 263 yL_tag wsL_tag) := goodIn_app (goodIn_of _ (by decide +kernel)) ggL_law_L_tag
theorem dL_law_2357 : decode cL_law 2357 = .ok (.invokestatic 263, 3) := by decide +kernel
theorem dL_law_2360 : decode cL_law 2360 = .ok (.istore 6, 2) := by decide +kernel
theorem dL_law_2362 : decode cL_law 2362 = .ok (.aload_n 2, 1) := by decide +kernel
theorem dL_law_2363 : decode cL_law 2363 = .ok (.aload_n 0, 1) := by decide +kernel
theorem dL_law_2364 : decode cL_law 2364 = .ok (.iload 5, 2) := by decide +kernel
theorem dL_law_2366 : decode cL_law 2366 = .ok (.iconst 1, 1) := by decide +kernel
theorem dL_law_2367 : decode cL_law 2367 = .ok (.iadd, 1) := by decide +kernel
theorem dL_law_2368 : decode cL_law 2368 = .ok (.iaload, 1) := by decide +kernel
theorem dL_law_2369 : decode cL_law 2369 = .ok (.aload_n 0, 1) := by decide +kernel
theorem dL_law_2370 : decode cL_law 2370 = .ok (.iload 5, 2) := by decide +kernel
theorem dL_law_2372 : decode cL_law 2372 = .ok (.iconst 2, 1) := by decide +kernel
theorem dL_law_2373 : decode cL_law 2373 = .ok (.iadd, 1) := by decide +kernel
theorem dL_law_2374 : decode cL_law 2374 = .ok (.iaload, 1) := by decide +kernel
set_option maxRecDepth 20000 in
theorem ggL_law_X15_tag : GoodIn wsL_law wsX15_tag := goodIn_r _ [1638, 238, 1262, 1639, 240, 1412, 1413, 1414, 186, 185, 187, 244, 245, 5, 246, 1640, 1641, 1642, 1643, 1644, 1421, 1645, 1423, 13, 14, 1646, 1460, 1427, 1425, 1426, 1482, 589, 590, 575, 591, 581, 592, 593, 594, 595, 586, 587, 1493, 1428, 1429, 610, 1430, 1431, 1432, 1433, 1434, 1647, 1440, 1648, 1649, 1650, 1651, 1652, 1436, 1437, 1438, 1439, 1441, 1442, 1443, 1444, 1445, 1446, 1447, 1448, 1449, 1450, 1451, 1452, 1453, 1454, 1455, 1456, 1457, 1458, 1459, 1461, 289, 290, 291, 292, 284, 285, 286, 293, 294, 295, 296, 1462, 1463, 299, 1464, 1465, 1466, 1467, 1468, 1469, 1470, 310, 311, 312, 313, 314, 315, 316, 1471, 1472, 1473, 1474, 1475, 1424, 1476, 1477, 1478, 637, 618, 619, 620, 621, 622, 623, 624, 625, 626, 627, 628, 629, 377, 630, 1479, 1480, 1481, 638, 639, 1483, 1484, 1485, 1486, 1487, 1488, 1489, 1490, 1491, 1492, 1494, 1495, 1496, 1497, 1498, 1499, 1500, 598, 1501, 1502, 1503, 1504, 1505, 1506, 1507, 1508, 1509, 1510, 1511, 1512, 1513, 1514, 1515, 1516, 1517, 1518, 1519, 1653, 1564, 1654, 1565, 1566, 1561, 1567, 1568, 1655, 1656, 1657, 1658, 1659, 1660, 1661, 1662, 1663, 1664, 1538, 1539, 1540, 376, 378, 1665, 635, 636, 1415, 1666, 1667, 1668, 1669, 1670, 1671, 1672, 1673, 1674, 1675, 1676, 1677, 1678, 1679, 1680, 1681, 1682, 1435, 1541, 1542, 1543, 1544, 1545, 1546, 1547, 1548, 1549, 1550, 1551, 1552, 1553, 1554, 1555, 1556, 1557, 1558, 1559, 1560, 1562, 1563, 1569, 1570, 1571, 1572, 1573, 1574, 1575, 1576, 1577, 1578, 1579, 1580, 1581, 1582, 1583, 1584, 1585, 634, 1586, 1587, 1588, 1589, 1854, 1855, 1856, 1857, 1858, 1859, 1860, 1861, 1862, 1863, 1864, 1865, 1866, 1867, 1868, 1869, 1870, 1871, 1872, 1873, 1874, 1998, 1999, 2000, 2001, 1979, 1980, 1981, 1982] (by decide +kernel) (by decide +kernel)
set_option maxRecDepth 20000 in
theorem gL_law_X15_tag : GoodIn wsL_law (wsV RL 265 RX15 yX15_tag wsX15_tag) := goodIn_app (goodIn_of _ (by decide +kernel)) ggL_law_X15_tag
theorem dL_law_2375 : decode cL_law 2375 = .ok (.invokevirtual 265, 3) := by decide +kernel
theorem dL_law_2378 : decode cL_law 2378 = .ok (.istore 7, 2) := by decide +kernel
theorem dL_law_2380 : decode cL_law 2380 = .ok (.aload_n 2, 1) := by decide +kernel
theorem dL_law_2381 : decode cL_law 2381 = .ok (.invokevirtual 152, 3) := by decide +kernel
theorem dL_law_2384 : decode cL_law 2384 = .ok (.iload 6, 2) := by decide +kernel
theorem dL_law_2386 : decode cL_law 2386 = .ok (.if_icmp .eq 5, 3) := by decide +kernel
theorem dL_law_2391 : decode cL_law 2391 = .ok (.iload 6, 2) := by decide +kernel
theorem dL_law_2393 : decode cL_law 2393 = .ok (.ifCond .ne 15, 3) := by decide +kernel
theorem dL_law_2396 : decode cL_law 2396 = .ok (.aload_n 3, 1) := by decide +kernel
theorem dL_law_2397 : decode cL_law 2397 = .ok (.iconst 0, 1) := by decide +kernel
theorem dL_law_2398 : decode cL_law 2398 = .ok (.laload, 1) := by decide +kernel
theorem dL_law_2399 : decode cL_law 2399 = .ok (.iload 7, 2) := by decide +kernel
theorem dL_law_2401 : decode cL_law 2401 = .ok (.i2l, 1) := by decide +kernel
theorem dL_law_2402 : decode cL_law 2402 = .ok (.lcmp, 1) := by decide +kernel
theorem dL_law_2403 : decode cL_law 2403 = .ok (.ifCond .eq 5, 3) := by decide +kernel
theorem dL_law_2408 : decode cL_law 2408 = .ok (.goto 370, 3) := by decide +kernel
theorem dL_law_2411 : decode cL_law 2411 = .ok (.aload_n 1, 1) := by decide +kernel
set_option maxRecDepth 20000 in
theorem ggL_law_X11_tagLength : GoodIn wsL_law wsX11_tagLength := goodIn_r _ [1686, 33, 1687, 1847, 1848, 1849, 1850, 1851, 1852, 1853, 1896, 1897, 1898, 1899, 1900, 1901] (by decide +kernel) (by decide +kernel)
set_option maxRecDepth 20000 in
theorem gL_law_X11_tagLength : GoodIn wsL_law (wsV RL 266 RX11 yX11_tagLength wsX11_tagLength) := goodIn_app (goodIn_of _ (by decide +kernel)) ggL_law_X11_tagLength
theorem dL_law_2412 : decode cL_law 2412 = .ok (.invokevirtual 266, 3) := by decide +kernel
theorem dL_law_2415 : decode cL_law 2415 = .ok (.aload_n 2, 1) := by decide +kernel
set_option maxRecDepth 20000 in
theorem ggL_law_X15_tagLength : GoodIn wsL_law wsX15_tagLength := goodIn_r _ [1691, 240, 187, 1415, 589, 590, 575, 591, 581, 592, 593, 594, 595, 586, 587, 1854, 1855, 1856, 1857, 1858, 1859, 1860, 1861, 1862, 1863, 1864, 1865, 1866, 1867, 1868, 1869, 1870, 1871, 1872, 1873, 1874, 1979, 1980, 1981, 1982] (by decide +kernel) (by decide +kernel)
set_option maxRecDepth 20000 in
theorem gL_law_X15_tagLength : GoodIn wsL_law (wsV RL 269 RX15 yX15_tagLength wsX15_tagLength) := goodIn_app (goodIn_of _ (by decide +kernel)) ggL_law_X15_tagLength
theorem dL_law_2416 : decode cL_law 2416 = .ok (.invokevirtual 269, 3) := by decide +kernel
theorem dL_law_2419 : decode cL_law 2419 = .ok (.if_icmp .eq 359, 3) := by decide +kernel
theorem dL_law_2424 : decode cL_law 2424 = .ok (.aload_n 1, 1) := by decide +kernel
theorem dL_law_2425 : decode cL_law 2425 = .ok (.aload_n 0, 1) := by decide +kernel
theorem dL_law_2426 : decode cL_law 2426 = .ok (.iload 5, 2) := by decide +kernel
theorem dL_law_2428 : decode cL_law 2428 = .ok (.iconst 1, 1) := by decide +kernel
theorem dL_law_2429 : decode cL_law 2429 = .ok (.iadd, 1) := by decide +kernel
theorem dL_law_2430 : decode cL_law 2430 = .ok (.iaload, 1) := by decide +kernel
theorem dL_law_2431 : decode cL_law 2431 = .ok (.aload_n 3, 1) := by decide +kernel
set_option maxRecDepth 20000 in
theorem ggL_law_L_tagLetter : GoodIn wsL_law wsL_tagLetter := goodIn_ca (goodIn_ca (goodIn_r _ [1694, 404, 1695, 1696, 1697, 2, 1698, 33, 1687, 219, 220, 221, 410, 411, 412, 413, 414, 1699, 1700, 1701, 32, 1702, 163, 728, 729, 1847, 1848, 1849, 1850, 1851, 1852, 1853, 1896, 1897, 1898, 1899, 1900, 1901] (by decide +kernel) (by decide +kernel)) (goodIn_sub (fun _ h => List.mem_append_left _ (List.mem_append_left _ (List.mem_append_left _ (List.mem_append_left _ (List.mem_append_left _ (List.mem_append_left _ (List.mem_append_left _ (List.mem_append_right _ h)))))))) (by decide +kernel))) (goodIn_sub (fun _ h => List.mem_append_left _ (List.mem_append_left _ (List.mem_append_left _ (List.mem_append_right _ h)))) (by decide +kernel))
set_option maxRecDepth 20000 in
theorem gL_law_L_tagLetter : GoodIn wsL_law (va_wsS RL 270 yL_tagLetter wsL_tagLetter) := goodIn_app (goodIn_of _ (by decide +kernel)) ggL_law_L_tagLetter
theorem dL_law_2432 : decode cL_law 2432 = .ok (.invokestatic 270, 3) := by decide +kernel
theorem dL_law_2435 : decode cL_law 2435 = .ok (.istore 6, 2) := by decide +kernel
theorem dL_law_2437 : decode cL_law 2437 = .ok (.aload_n 2, 1) := by decide +kernel
theorem dL_law_2438 : decode cL_law 2438 = .ok (.aload_n 0, 1) := by decide +kernel
theorem dL_law_2439 : decode cL_law 2439 = .ok (.iload 5, 2) := by decide +kernel
theorem dL_law_2441 : decode cL_law 2441 = .ok (.iconst 1, 1) := by decide +kernel
theorem dL_law_2442 : decode cL_law 2442 = .ok (.iadd, 1) := by decide +kernel
theorem dL_law_2443 : decode cL_law 2443 = .ok (.iaload, 1) := by decide +kernel
set_option maxRecDepth 20000 in
theorem ggL_law_X15_tagLetter : GoodIn wsL_law wsX15_tagLetter := goodIn_r _ [1706, 187, 240, 1415, 589, 590, 575, 591, 581, 592, 593, 594, 595, 586, 587, 244, 245, 5, 246, 1707, 1708, 1709, 1710, 582, 583, 584, 585, 1711, 1712, 598, 1713, 1714, 1538, 1539, 627, 1540, 376, 377, 378, 1715, 1716, 610, 1717, 1534, 1535, 1536, 621, 622, 623, 1537, 634, 635, 636, 637, 638, 639, 1854, 1855, 1856, 1857, 1858, 1859, 1860, 1861, 1862, 1863, 1864, 1865, 1866, 1867, 1868, 1869, 1870, 1871, 1872, 1873, 1874, 1979, 1980, 1981, 1982] (by decide +kernel) (by decide +kernel)
set_option maxRecDepth 20000 in
theorem gL_law_X15_tagLetter : GoodIn wsL_law (wsV RL 272 RX15 yX15_tagLetter wsX15_tagLetter) := goodIn_app (goodIn_of _ (by decide +kernel)) ggL_law_X15_tagLetter
theorem dL_law_2444 : decode cL_law 2444 = .ok (.invokevirtual 272, 3) := by decide +kernel
theorem dL_law_2447 : decode cL_law 2447 = .ok (.istore 7, 2) := by decide +kernel
theorem dL_law_2449 : decode cL_law 2449 = .ok (.aload_n 2, 1) := by decide +kernel
theorem dL_law_2450 : decode cL_law 2450 = .ok (.invokevirtual 152, 3) := by decide +kernel
theorem dL_law_2453 : decode cL_law 2453 = .ok (.iload 6, 2) := by decide +kernel
theorem dL_law_2455 : decode cL_law 2455 = .ok (.if_icmp .eq 5, 3) := by decide +kernel
theorem dL_law_2460 : decode cL_law 2460 = .ok (.iload 6, 2) := by decide +kernel
theorem dL_law_2462 : decode cL_law 2462 = .ok (.ifCond .ne 15, 3) := by decide +kernel
theorem dL_law_2477 : decode cL_law 2477 = .ok (.goto 301, 3) := by decide +kernel
theorem dL_law_2480 : decode cL_law 2480 = .ok (.aload_n 1, 1) := by decide +kernel
theorem dL_law_2481 : decode cL_law 2481 = .ok (.aload_n 0, 1) := by decide +kernel
theorem dL_law_2482 : decode cL_law 2482 = .ok (.iload 5, 2) := by decide +kernel
theorem dL_law_2484 : decode cL_law 2484 = .ok (.iconst 1, 1) := by decide +kernel
theorem dL_law_2485 : decode cL_law 2485 = .ok (.iadd, 1) := by decide +kernel
theorem dL_law_2486 : decode cL_law 2486 = .ok (.iaload, 1) := by decide +kernel
theorem dL_law_2487 : decode cL_law 2487 = .ok (.aload_n 0, 1) := by decide +kernel
theorem dL_law_2488 : decode cL_law 2488 = .ok (.iload 5, 2) := by decide +kernel
theorem dL_law_2490 : decode cL_law 2490 = .ok (.iconst 2, 1) := by decide +kernel
theorem dL_law_2491 : decode cL_law 2491 = .ok (.iadd, 1) := by decide +kernel
theorem dL_law_2492 : decode cL_law 2492 = .ok (.iaload, 1) := by decide +kernel
theorem dL_law_2493 : decode cL_law 2493 = .ok (.aload_n 3, 1) := by decide +kernel
set_option maxRecDepth 20000 in
theorem ggL_law_L_fraction : GoodIn wsL_law wsL_fraction := goodIn_ca (goodIn_ca (goodIn_ca (goodIn_ca (goodIn_r _ [1720, 208, 209, 1721, 1722, 1723, 2, 1724, 226, 227, 37, 1725, 219, 220, 221, 214, 215, 216, 217, 218, 1726, 1727, 1728, 36, 1729, 167, 171, 172, 1730, 1731, 1732, 352, 353, 1847, 1848, 1849, 1850, 1851, 1852, 1853, 1902, 1903, 1904, 1905, 1906, 1907] (by decide +kernel) (by decide +kernel)) (goodIn_sub (fun _ h => List.mem_append_left _ (List.mem_append_left _ (List.mem_append_left _ (List.mem_append_left _ (List.mem_append_left _ (List.mem_append_left _ (List.mem_append_left _ (List.mem_append_right _ h)))))))) (by decide +kernel))) (goodIn_sub (fun _ h => List.mem_append_left _ (List.mem_append_left _ (List.mem_append_left _ (List.mem_append_left _ (List.mem_append_left _ (List.mem_append_right _ h)))))) (by decide +kernel))) (goodIn_sub (fun _ h => List.mem_append_left _ (List.mem_append_left _ (List.mem_append_left _ (List.mem_append_left _ (List.mem_append_left _ (List.mem_append_left _ (List.mem_append_right _ h))))))) (by decide +kernel))) (goodIn_sub (fun _ h => List.mem_append_left _ (List.mem_append_right _ h)) (by decide +kernel))
set_option maxRecDepth 20000 in
theorem gL_law_L_fraction : GoodIn wsL_law (va_wsS RL 273 yL_fraction wsL_fraction) := goodIn_app (goodIn_of _ (by decide +kernel)) ggL_law_L_fraction
theorem dL_law_2494 : decode cL_law 2494 = .ok (.invokestatic 273, 3) := by decide +kernel
theorem dL_law_2497 : decode cL_law 2497 = .ok (.istore 6, 2) := by decide +kernel
theorem dL_law_2499 : decode cL_law 2499 = .ok (.aload_n 2, 1) := by decide +kernel
theorem dL_law_2500 : decode cL_law 2500 = .ok (.aload_n 0, 1) := by decide +kernel
theorem dL_law_2501 : decode cL_law 2501 = .ok (.iload 5, 2) := by decide +kernel
theorem dL_law_2503 : decode cL_law 2503 = .ok (.iconst 1, 1) := by decide +kernel
theorem dL_law_2504 : decode cL_law 2504 = .ok (.iadd, 1) := by decide +kernel
theorem dL_law_2505 : decode cL_law 2505 = .ok (.iaload, 1) := by decide +kernel
theorem dL_law_2506 : decode cL_law 2506 = .ok (.aload_n 0, 1) := by decide +kernel
theorem dL_law_2507 : decode cL_law 2507 = .ok (.iload 5, 2) := by decide +kernel
theorem dL_law_2509 : decode cL_law 2509 = .ok (.iconst 2, 1) := by decide +kernel
theorem dL_law_2510 : decode cL_law 2510 = .ok (.iadd, 1) := by decide +kernel
theorem dL_law_2511 : decode cL_law 2511 = .ok (.iaload, 1) := by decide +kernel
set_option maxRecDepth 20000 in
theorem ggL_law_X15_fraction : GoodIn wsL_law wsX15_fraction := goodIn_ca (goodIn_r _ [1736, 1737, 188, 240, 71, 244, 245, 5, 246, 247, 248, 249, 180, 250, 251, 265, 266, 267, 268, 269, 270, 193, 271, 272, 273, 274, 275, 276, 277, 278, 279, 280, 281, 282, 192, 283, 284, 285, 286, 287, 288, 289, 290, 291, 292, 293, 294, 295, 296, 297, 298, 299, 300, 301, 302, 303, 304, 305, 306, 307, 308, 309, 310, 311, 312, 313, 314, 315, 316, 1854, 1855, 1856, 1857, 1858, 1859, 1860, 1861, 1862, 1863, 1864, 1865, 1866, 1867, 1868, 1869, 1870, 1871, 1872, 1873, 1874, 1955, 1956, 1957] (by decide +kernel) (by decide +kernel)) (goodIn_sub (fun _ h => List.mem_append_left _ (List.mem_append_left _ (List.mem_append_left _ (List.mem_append_left _ (List.mem_append_left _ (List.mem_append_left _ (List.mem_append_left _ (List.mem_append_right _ h)))))))) (by decide +kernel))
set_option maxRecDepth 20000 in
theorem gL_law_X15_fraction : GoodIn wsL_law (wsV RL 275 RX15 yX15_fraction wsX15_fraction) := goodIn_app (goodIn_of _ (by decide +kernel)) ggL_law_X15_fraction
theorem dL_law_2512 : decode cL_law 2512 = .ok (.invokevirtual 275, 3) := by decide +kernel
theorem dL_law_2515 : decode cL_law 2515 = .ok (.istore 7, 2) := by decide +kernel
theorem dL_law_2517 : decode cL_law 2517 = .ok (.aload_n 2, 1) := by decide +kernel
theorem dL_law_2518 : decode cL_law 2518 = .ok (.invokevirtual 152, 3) := by decide +kernel
theorem dL_law_2521 : decode cL_law 2521 = .ok (.iload 6, 2) := by decide +kernel
theorem dL_law_2523 : decode cL_law 2523 = .ok (.if_icmp .eq 5, 3) := by decide +kernel
theorem dL_law_2528 : decode cL_law 2528 = .ok (.iload 6, 2) := by decide +kernel
theorem dL_law_2530 : decode cL_law 2530 = .ok (.ifCond .ne 15, 3) := by decide +kernel
theorem dL_law_2533 : decode cL_law 2533 = .ok (.aload_n 3, 1) := by decide +kernel
theorem dL_law_2534 : decode cL_law 2534 = .ok (.iconst 0, 1) := by decide +kernel
theorem dL_law_2535 : decode cL_law 2535 = .ok (.laload, 1) := by decide +kernel
theorem dL_law_2536 : decode cL_law 2536 = .ok (.iload 7, 2) := by decide +kernel
theorem dL_law_2538 : decode cL_law 2538 = .ok (.i2l, 1) := by decide +kernel
theorem dL_law_2539 : decode cL_law 2539 = .ok (.lcmp, 1) := by decide +kernel
theorem dL_law_2540 : decode cL_law 2540 = .ok (.ifCond .eq 5, 3) := by decide +kernel
theorem dL_law_2545 : decode cL_law 2545 = .ok (.goto 233, 3) := by decide +kernel
theorem dL_law_2548 : decode cL_law 2548 = .ok (.aload_n 1, 1) := by decide +kernel
set_option maxRecDepth 20000 in
theorem ggL_law_X11_unwalk : GoodIn wsL_law wsX11_unwalk := goodIn_r _ [1741, 37, 1725, 1847, 1848, 1849, 1850, 1851, 1852, 1853, 1902, 1903, 1904, 1905, 1906, 1907] (by decide +kernel) (by decide +kernel)
set_option maxRecDepth 20000 in
theorem gL_law_X11_unwalk : GoodIn wsL_law (wsV RL 276 RX11 yX11_unwalk wsX11_unwalk) := goodIn_app (goodIn_of _ (by decide +kernel)) ggL_law_X11_unwalk
theorem dL_law_2549 : decode cL_law 2549 = .ok (.invokevirtual 276, 3) := by decide +kernel
theorem dL_law_2552 : decode cL_law 2552 = .ok (.aload_n 2, 1) := by decide +kernel
set_option maxRecDepth 20000 in
theorem ggL_law_X15_unwalk : GoodIn wsL_law wsX15_unwalk := goodIn_r _ [1745, 240, 188, 247, 248, 249, 180, 250, 251, 1353, 1354, 1355, 1356, 269, 270, 193, 1854, 1855, 1856, 1857, 1858, 1859, 1860, 1861, 1862, 1863, 1864, 1865, 1866, 1867, 1868, 1869, 1870, 1871, 1872, 1873, 1874, 1955, 1956, 1957] (by decide +kernel) (by decide +kernel)
set_option maxRecDepth 20000 in
theorem gL_law_X15_unwalk : GoodIn wsL_law (wsV RL 279 RX15 yX15_unwalk wsX15_unwalk) := goodIn_app (goodIn_of _ (by decide +kernel)) ggL_law_X15_unwalk
theorem dL_law_2553 : decode cL_law 2553 = .ok (.invokevirtual 279, 3) := by decide +kernel
theorem dL_law_2556 : decode cL_law 2556 = .ok (.if_icmp .eq 222, 3) := by decide +kernel
theorem dL_law_2561 : decode cL_law 2561 = .ok (.aload_n 1, 1) := by decide +kernel
theorem dL_law_2562 : decode cL_law 2562 = .ok (.aload_n 0, 1) := by decide +kernel
theorem dL_law_2563 : decode cL_law 2563 = .ok (.iload 5, 2) := by decide +kernel
theorem dL_law_2565 : decode cL_law 2565 = .ok (.iconst 1, 1) := by decide +kernel
theorem dL_law_2566 : decode cL_law 2566 = .ok (.iadd, 1) := by decide +kernel
theorem dL_law_2567 : decode cL_law 2567 = .ok (.iaload, 1) := by decide +kernel
theorem dL_law_2568 : decode cL_law 2568 = .ok (.i2l, 1) := by decide +kernel
theorem dL_law_2569 : decode cL_law 2569 = .ok (.bipush 32, 2) := by decide +kernel
theorem dL_law_2571 : decode cL_law 2571 = .ok (.lshl, 1) := by decide +kernel
theorem dL_law_2572 : decode cL_law 2572 = .ok (.aload_n 0, 1) := by decide +kernel
theorem dL_law_2573 : decode cL_law 2573 = .ok (.iload 5, 2) := by decide +kernel
theorem dL_law_2575 : decode cL_law 2575 = .ok (.iconst 2, 1) := by decide +kernel
theorem dL_law_2576 : decode cL_law 2576 = .ok (.iadd, 1) := by decide +kernel
theorem dL_law_2577 : decode cL_law 2577 = .ok (.iaload, 1) := by decide +kernel
theorem dL_law_2578 : decode cL_law 2578 = .ok (.i2l, 1) := by decide +kernel
theorem dL_law_2579 : decode cL_law 2579 = .ok (.ldc2_w 280, 3) := by decide +kernel
theorem dL_law_2582 : decode cL_law 2582 = .ok (.land, 1) := by decide +kernel
theorem dL_law_2583 : decode cL_law 2583 = .ok (.lor, 1) := by decide +kernel
theorem dL_law_2584 : decode cL_law 2584 = .ok (.aload_n 0, 1) := by decide +kernel
theorem dL_law_2585 : decode cL_law 2585 = .ok (.iload 5, 2) := by decide +kernel
theorem dL_law_2587 : decode cL_law 2587 = .ok (.iconst 3, 1) := by decide +kernel
theorem dL_law_2588 : decode cL_law 2588 = .ok (.iadd, 1) := by decide +kernel
theorem dL_law_2589 : decode cL_law 2589 = .ok (.iaload, 1) := by decide +kernel
theorem dL_law_2590 : decode cL_law 2590 = .ok (.aload_n 3, 1) := by decide +kernel
set_option maxRecDepth 20000 in
theorem ggL_law_L_walk : GoodIn wsL_law wsL_walk := goodIn_ca (goodIn_ca (goodIn_ca (goodIn_r _ [1748, 208, 1749, 1750, 1751, 2, 1752, 1753, 37, 214, 215, 216, 217, 218, 219, 220, 221, 1754, 1755, 1756, 36, 1757, 170, 168, 169, 1758, 1759, 1760, 1761, 171, 172, 1762, 1763, 1764, 1765, 1766, 167, 728, 729, 1847, 1848, 1849, 1850, 1851, 1852, 1853, 1902, 1903, 1904, 1905, 1906, 1907] (by decide +kernel) (by decide +kernel)) (goodIn_sub (fun _ h => List.mem_append_left _ (List.mem_append_left _ (List.mem_append_left _ (List.mem_append_left _ (List.mem_append_left _ (List.mem_append_left _ (List.mem_append_left _ (List.mem_append_right _ h)))))))) (by decide +kernel))) (goodIn_sub (fun _ h => List.mem_append_left _ (List.mem_append_left _ (List.mem_append_left _ (List.mem_append_left _ (List.mem_append_left _ (List.mem_append_left _ (List.mem_append_right _ h))))))) (by decide +kernel))) (goodIn_sub (fun _ h => List.mem_append_left _ (List.mem_append_right _ h)) (by decide +kernel))
set_option maxRecDepth 20000 in
theorem gL_law_L_walk : GoodIn wsL_law (va_wsS RL 282 yL_walk wsL_walk) := goodIn_app (goodIn_of _ (by decide +kernel)) ggL_law_L_walk
theorem dL_law_2591 : decode cL_law 2591 = .ok (.invokestatic 282, 3) := by decide +kernel
theorem dL_law_2594 : decode cL_law 2594 = .ok (.istore 6, 2) := by decide +kernel
theorem dL_law_2596 : decode cL_law 2596 = .ok (.aload_n 2, 1) := by decide +kernel
theorem dL_law_2597 : decode cL_law 2597 = .ok (.aload_n 0, 1) := by decide +kernel
theorem dL_law_2598 : decode cL_law 2598 = .ok (.iload 5, 2) := by decide +kernel
theorem dL_law_2600 : decode cL_law 2600 = .ok (.iconst 1, 1) := by decide +kernel
theorem dL_law_2601 : decode cL_law 2601 = .ok (.iadd, 1) := by decide +kernel
theorem dL_law_2602 : decode cL_law 2602 = .ok (.iaload, 1) := by decide +kernel
theorem dL_law_2603 : decode cL_law 2603 = .ok (.i2l, 1) := by decide +kernel
theorem dL_law_2604 : decode cL_law 2604 = .ok (.bipush 32, 2) := by decide +kernel
theorem dL_law_2606 : decode cL_law 2606 = .ok (.lshl, 1) := by decide +kernel
theorem dL_law_2607 : decode cL_law 2607 = .ok (.aload_n 0, 1) := by decide +kernel
theorem dL_law_2608 : decode cL_law 2608 = .ok (.iload 5, 2) := by decide +kernel
theorem dL_law_2610 : decode cL_law 2610 = .ok (.iconst 2, 1) := by decide +kernel
theorem dL_law_2611 : decode cL_law 2611 = .ok (.iadd, 1) := by decide +kernel
theorem dL_law_2612 : decode cL_law 2612 = .ok (.iaload, 1) := by decide +kernel
theorem dL_law_2613 : decode cL_law 2613 = .ok (.i2l, 1) := by decide +kernel
theorem dL_law_2614 : decode cL_law 2614 = .ok (.ldc2_w 280, 3) := by decide +kernel
theorem dL_law_2617 : decode cL_law 2617 = .ok (.land, 1) := by decide +kernel
theorem dL_law_2618 : decode cL_law 2618 = .ok (.lor, 1) := by decide +kernel
theorem dL_law_2619 : decode cL_law 2619 = .ok (.aload_n 0, 1) := by decide +kernel
theorem dL_law_2620 : decode cL_law 2620 = .ok (.iload 5, 2) := by decide +kernel
theorem dL_law_2622 : decode cL_law 2622 = .ok (.iconst 3, 1) := by decide +kernel
theorem dL_law_2623 : decode cL_law 2623 = .ok (.iadd, 1) := by decide +kernel
theorem dL_law_2624 : decode cL_law 2624 = .ok (.iaload, 1) := by decide +kernel
set_option maxRecDepth 20000 in
theorem ggL_law_X15_walk : GoodIn wsL_law wsX15_walk := goodIn_ca (goodIn_ca (goodIn_r _ [1770, 1771, 498, 240, 1772, 1773, 1774, 244, 245, 5, 246, 1775, 1776, 1777, 1778, 188, 1378, 1287, 1288, 1289, 180, 1290, 1291, 1292, 1293, 1294, 1295, 1296, 1297, 1298, 13, 14, 1299, 1300, 270, 1301, 1302, 1303, 1304, 1305, 1306, 1307, 1308, 1309, 1310, 1311, 1312, 1313, 1314, 1315, 1779, 1780, 1781, 1854, 1855, 1856, 1857, 1858, 1859, 1860, 1861, 1862, 1863, 1864, 1865, 1866, 1867, 1868, 1869, 1870, 1871, 1872, 1873, 1874, 1994, 1995, 1996, 1997, 1955, 1956, 1957] (by decide +kernel) (by decide +kernel)) (goodIn_sub (fun _ h => List.mem_append_left _ (List.mem_append_left _ (List.mem_append_left _ (List.mem_append_left _ (List.mem_append_left _ (List.mem_append_left _ (List.mem_append_left _ (List.mem_append_right _ h)))))))) (by decide +kernel))) (goodIn_sub (fun _ h => List.mem_append_left _ (List.mem_append_right _ h)) (by decide +kernel))
set_option maxRecDepth 20000 in
theorem gL_law_X15_walk : GoodIn wsL_law (wsV RL 285 RX15 yX15_walk wsX15_walk) := goodIn_app (goodIn_of _ (by decide +kernel)) ggL_law_X15_walk
theorem dL_law_2625 : decode cL_law 2625 = .ok (.invokevirtual 285, 3) := by decide +kernel
theorem dL_law_2628 : decode cL_law 2628 = .ok (.lstore 7, 2) := by decide +kernel
theorem dL_law_2630 : decode cL_law 2630 = .ok (.aload_n 2, 1) := by decide +kernel
theorem dL_law_2631 : decode cL_law 2631 = .ok (.invokevirtual 152, 3) := by decide +kernel
theorem dL_law_2634 : decode cL_law 2634 = .ok (.iload 6, 2) := by decide +kernel
theorem dL_law_2636 : decode cL_law 2636 = .ok (.if_icmp .eq 5, 3) := by decide +kernel
theorem dL_law_2641 : decode cL_law 2641 = .ok (.iload 6, 2) := by decide +kernel
theorem dL_law_2643 : decode cL_law 2643 = .ok (.ifCond .ne 14, 3) := by decide +kernel
theorem dL_law_2646 : decode cL_law 2646 = .ok (.aload_n 3, 1) := by decide +kernel
theorem dL_law_2647 : decode cL_law 2647 = .ok (.iconst 0, 1) := by decide +kernel
theorem dL_law_2648 : decode cL_law 2648 = .ok (.laload, 1) := by decide +kernel
theorem dL_law_2649 : decode cL_law 2649 = .ok (.lload 7, 2) := by decide +kernel
theorem dL_law_2651 : decode cL_law 2651 = .ok (.lcmp, 1) := by decide +kernel
theorem dL_law_2652 : decode cL_law 2652 = .ok (.ifCond .eq 5, 3) := by decide +kernel
theorem dL_law_2657 : decode cL_law 2657 = .ok (.goto 121, 3) := by decide +kernel
theorem dL_law_2660 : decode cL_law 2660 = .ok (.aload_n 1, 1) := by decide +kernel
set_option maxRecDepth 20000 in
theorem ggL_law_X11_walked : GoodIn wsL_law wsX11_walked := goodIn_r _ [1785, 37, 1786, 1847, 1848, 1849, 1850, 1851, 1852, 1853, 1902, 1903, 1904, 1905, 1906, 1907] (by decide +kernel) (by decide +kernel)
set_option maxRecDepth 20000 in
theorem gL_law_X11_walked : GoodIn wsL_law (wsV RL 286 RX11 yX11_walked wsX11_walked) := goodIn_app (goodIn_of _ (by decide +kernel)) ggL_law_X11_walked
theorem dL_law_2661 : decode cL_law 2661 = .ok (.invokevirtual 286, 3) := by decide +kernel
theorem dL_law_2664 : decode cL_law 2664 = .ok (.aload_n 2, 1) := by decide +kernel
set_option maxRecDepth 20000 in
theorem ggL_law_X15_walked : GoodIn wsL_law wsX15_walked := goodIn_r _ [1790, 240, 1772, 1854, 1855, 1856, 1857, 1858, 1859, 1860, 1861, 1862, 1863, 1864, 1865, 1866, 1867, 1868, 1869, 1870, 1871, 1872, 1873, 1874] (by decide +kernel) (by decide +kernel)
set_option maxRecDepth 20000 in
theorem gL_law_X15_walked : GoodIn wsL_law (wsV RL 289 RX15 yX15_walked wsX15_walked) := goodIn_app (goodIn_of _ (by decide +kernel)) ggL_law_X15_walked
theorem dL_law_2665 : decode cL_law 2665 = .ok (.invokevirtual 289, 3) := by decide +kernel
theorem dL_law_2668 : decode cL_law 2668 = .ok (.if_icmp .eq 110, 3) := by decide +kernel
theorem dL_law_2673 : decode cL_law 2673 = .ok (.aload_n 1, 1) := by decide +kernel
set_option maxRecDepth 20000 in
theorem ggL_law_X11_hasWalked : GoodIn wsL_law wsX11_hasWalked := goodIn_r _ [1794, 37, 1795, 1847, 1848, 1849, 1850, 1851, 1852, 1853, 1902, 1903, 1904, 1905, 1906, 1907] (by decide +kernel) (by decide +kernel)
set_option maxRecDepth 20000 in
theorem gL_law_X11_hasWalked : GoodIn wsL_law (wsV RL 290 RX11 yX11_hasWalked wsX11_hasWalked) := goodIn_app (goodIn_of _ (by decide +kernel)) ggL_law_X11_hasWalked
theorem dL_law_2674 : decode cL_law 2674 = .ok (.invokevirtual 290, 3) := by decide +kernel
theorem dL_law_2677 : decode cL_law 2677 = .ok (.aload_n 2, 1) := by decide +kernel
set_option maxRecDepth 20000 in
theorem ggL_law_X15_hasWalked : GoodIn wsL_law wsX15_hasWalked := goodIn_r _ [1799, 240, 1774, 1854, 1855, 1856, 1857, 1858, 1859, 1860, 1861, 1862, 1863, 1864, 1865, 1866, 1867, 1868, 1869, 1870, 1871, 1872, 1873, 1874] (by decide +kernel) (by decide +kernel)
set_option maxRecDepth 20000 in
theorem gL_law_X15_hasWalked : GoodIn wsL_law (wsV RL 294 RX15 yX15_hasWalked wsX15_hasWalked) := goodIn_app (goodIn_of _ (by decide +kernel)) ggL_law_X15_hasWalked
theorem dL_law_2678 : decode cL_law 2678 = .ok (.invokevirtual 294, 3) := by decide +kernel
theorem dL_law_2681 : decode cL_law 2681 = .ok (.if_icmp .eq 97, 3) := by decide +kernel
theorem dL_law_2686 : decode cL_law 2686 = .ok (.aload_n 1, 1) := by decide +kernel
theorem dL_law_2687 : decode cL_law 2687 = .ok (.aload 4, 2) := by decide +kernel
set_option maxRecDepth 20000 in
theorem ggL_law_L_meanMarks : GoodIn wsL_law wsL_meanMarks := goodIn_ca (goodIn_ca (goodIn_ca (goodIn_r _ [1802, 1803, 1804, 1805, 1806, 2, 1807, 1808, 1809, 17, 1055, 330, 331, 332, 333, 334, 335, 16, 1239, 1240, 1241, 1242, 21, 1034, 1035, 1036, 120, 1037, 138, 1079, 1080, 1081, 20, 1082, 794, 795, 796, 1083, 1084, 285, 1085, 52, 1086, 1087, 1088, 1089, 44, 784, 788, 459, 460, 43, 461, 462, 463, 464, 465, 72, 65, 66, 67, 68, 69, 70, 466, 467, 299, 468, 469, 470, 471, 472, 473, 474, 311, 312, 475, 284, 286, 476, 477, 478, 479, 480, 349, 350, 351, 144, 145, 141, 481, 482, 483, 484, 485, 486, 487, 488, 489, 490, 491, 492, 493, 789, 542, 543, 544, 790, 565, 566, 567, 1090, 1091, 1092, 1093, 53, 1094, 1095, 826, 827, 828, 1096, 1097, 1098, 1099, 1100, 1101, 1102, 1103, 1104, 1105, 1106, 816, 817, 818, 819, 314, 315, 316, 1107, 843, 844, 845, 846, 847, 848, 51, 849, 89, 850, 851, 852, 853, 91, 90, 93, 92, 854, 855, 856, 857, 352, 353, 858, 859, 860, 861, 862, 863, 864, 728, 729, 865, 866, 867, 868, 869, 870, 871, 872, 873, 874, 875, 876, 877, 878, 879, 880, 881, 882, 883, 1108, 1109, 1110, 1111, 61, 787, 884, 885, 886, 60, 887, 109, 108, 110, 111, 112, 114, 113, 888, 889, 890, 891, 892, 893, 894, 895, 896, 897, 898, 899, 900, 901, 902, 903, 904, 905, 906, 907, 908, 909, 910, 911, 912, 913, 914, 915, 916, 917, 1847, 1848, 1849, 1850, 1851, 1852, 1853, 1944, 1945, 1946, 1947, 1948, 1949, 1950, 1951, 1952, 1953, 1954, 1875, 1876, 1877, 1878, 1879, 1880, 1908, 1909, 1910, 1911, 1912, 1913, 1914, 1924, 1925, 1926, 1927, 1928, 1937, 1938, 1939, 1940, 1941, 1942, 1943] (by decide +kernel) (by decide +kernel)) (goodIn_sub (fun _ h => List.mem_append_left _ (List.mem_append_left _ (List.mem_append_left _ (List.mem_append_left _ (List.mem_append_left _ (List.mem_append_left _ (List.mem_append_left _ (List.mem_append_right _ h)))))))) (by decide +kernel))) (goodIn_sub (fun _ h => List.mem_append_right _ h) (by decide +kernel))) (goodIn_sub (fun _ h => List.mem_append_left _ (List.mem_append_left _ (List.mem_append_left _ (List.mem_append_left _ (List.mem_append_right _ h))))) (by decide +kernel))
set_option maxRecDepth 20000 in
theorem gL_law_L_meanMarks : GoodIn wsL_law (va_wsS RL 295 yL_meanMarks wsL_meanMarks) := goodIn_app (goodIn_of _ (by decide +kernel)) ggL_law_L_meanMarks
theorem dL_law_2689 : decode cL_law 2689 = .ok (.invokestatic 295, 3) := by decide +kernel
theorem dL_law_2692 : decode cL_law 2692 = .ok (.istore 6, 2) := by decide +kernel
theorem dL_law_2694 : decode cL_law 2694 = .ok (.aload_n 2, 1) := by decide +kernel
set_option maxRecDepth 20000 in
theorem ggL_law_X15_meanMarks : GoodIn wsL_law wsX15_meanMarks := goodIn_ca (goodIn_ca (goodIn_r _ [1813, 181, 362, 240, 1287, 1288, 1289, 180, 1290, 1291, 1292, 1293, 1294, 1295, 1296, 1297, 1298, 13, 14, 1299, 1300, 270, 1301, 1302, 1303, 1304, 1305, 1306, 1307, 1308, 1309, 1310, 1311, 1312, 1313, 1314, 1315, 1116, 1117, 1118, 5, 1119, 922, 923, 499, 500, 501, 1120, 1084, 285, 1085, 928, 929, 930, 931, 502, 503, 504, 505, 71, 506, 507, 508, 509, 510, 511, 512, 513, 514, 515, 516, 517, 518, 519, 520, 521, 522, 311, 312, 523, 524, 284, 286, 525, 526, 527, 528, 529, 530, 531, 532, 533, 388, 389, 243, 390, 261, 655, 656, 657, 658, 932, 933, 934, 935, 948, 940, 941, 942, 943, 944, 945, 946, 947, 949, 950, 951, 952, 442, 443, 444, 445, 446, 242, 259, 260, 262, 263, 264, 395, 447, 253, 254, 255, 256, 257, 258, 244, 245, 246, 961, 962, 963, 964, 965, 966, 967, 968, 969, 970, 971, 972, 177, 973, 974, 975, 976, 977, 978, 979, 980, 981, 982, 983, 984, 985, 986, 987, 988, 989, 990, 991, 992, 993, 994, 995, 996, 997, 998, 999, 1000, 1001, 1002, 1003, 1004, 1005, 1006, 1007, 1008, 1009, 1010, 1011, 1012, 1013, 1014, 1015, 1016, 1017, 1018, 1019, 1020, 1021, 1022, 1023, 1024, 1025, 1026, 1854, 1855, 1856, 1857, 1858, 1859, 1860, 1861, 1862, 1863, 1864, 1865, 1866, 1867, 1868, 1869, 1870, 1871, 1872, 1873, 1874, 1958, 1959, 1960, 1961, 1962, 1963, 1964, 1965, 1966, 1967, 1968, 1969, 1994, 1995, 1996, 1997, 1955, 1956, 1957, 1970, 1971, 1972, 1973, 1974, 1975, 1976, 1977, 1978, 1983, 1984, 1985, 1986, 1987, 1988, 1989, 1990, 1991, 1992, 1993] (by decide +kernel) (by decide +kernel)) (goodIn_sub (fun _ h => List.mem_append_left _ (List.mem_append_left _ (List.mem_append_left _ (List.mem_append_left _ (List.mem_append_left _ (List.mem_append_left _ (List.mem_append_left _ (List.mem_append_right _ h)))))))) (by decide +kernel))) (goodIn_sub (fun _ h => List.mem_append_left _ (List.mem_append_right _ h)) (by decide +kernel))
set_option maxRecDepth 20000 in
theorem gL_law_X15_meanMarks : GoodIn wsL_law (wsV RL 298 RX15 yX15_meanMarks wsX15_meanMarks) := goodIn_app (goodIn_of _ (by decide +kernel)) ggL_law_X15_meanMarks
theorem dL_law_2695 : decode cL_law 2695 = .ok (.invokevirtual 298, 3) := by decide +kernel
theorem dL_law_2698 : decode cL_law 2698 = .ok (.dstore 7, 2) := by decide +kernel
theorem dL_law_2700 : decode cL_law 2700 = .ok (.aload_n 2, 1) := by decide +kernel
theorem dL_law_2701 : decode cL_law 2701 = .ok (.invokevirtual 152, 3) := by decide +kernel
theorem dL_law_2704 : decode cL_law 2704 = .ok (.iload 6, 2) := by decide +kernel
theorem dL_law_2706 : decode cL_law 2706 = .ok (.if_icmp .eq 5, 3) := by decide +kernel
theorem dL_law_2711 : decode cL_law 2711 = .ok (.iload 6, 2) := by decide +kernel
theorem dL_law_2713 : decode cL_law 2713 = .ok (.ifCond .ne 35, 3) := by decide +kernel
theorem dL_law_2748 : decode cL_law 2748 = .ok (.goto 30, 3) := by decide +kernel
theorem dL_law_2751 : decode cL_law 2751 = .ok (.aload_n 1, 1) := by decide +kernel
set_option maxRecDepth 20000 in
theorem ggL_law_X11_checksum : GoodIn wsL_law wsX11_checksum := goodIn_ca (goodIn_ca (goodIn_r _ [1817, 1818, 17, 330, 331, 332, 2, 333, 334, 335, 16, 1819, 1820, 1821, 120, 1822, 144, 145, 1823, 348, 349, 350, 351, 141, 1847, 1848, 1849, 1850, 1851, 1852, 1853, 1944, 1945, 1946, 1947, 1948, 1949, 1950, 1951, 1952, 1953, 1954] (by decide +kernel) (by decide +kernel)) (goodIn_sub (fun _ h => List.mem_append_left _ (List.mem_append_left _ (List.mem_append_left _ (List.mem_append_left _ (List.mem_append_right _ h))))) (by decide +kernel))) (goodIn_sub (fun _ h => List.mem_append_left _ (List.mem_append_left _ (List.mem_append_left _ (List.mem_append_left _ (List.mem_append_left _ (List.mem_append_left _ (List.mem_append_left _ (List.mem_append_right _ h)))))))) (by decide +kernel))
set_option maxRecDepth 20000 in
theorem gL_law_X11_checksum : GoodIn wsL_law (wsV RL 299 RX11 yX11_checksum wsX11_checksum) := goodIn_app (goodIn_of _ (by decide +kernel)) ggL_law_X11_checksum
theorem dL_law_2752 : decode cL_law 2752 = .ok (.invokevirtual 299, 3) := by decide +kernel
theorem dL_law_2755 : decode cL_law 2755 = .ok (.aload_n 2, 1) := by decide +kernel
set_option maxRecDepth 20000 in
theorem ggL_law_X15_checksum : GoodIn wsL_law wsX15_checksum := goodIn_ca (goodIn_r _ [1827, 240, 1828, 181, 362, 1829, 1287, 1288, 1289, 180, 1290, 1291, 1292, 1293, 1294, 1295, 1296, 1297, 1298, 13, 14, 1299, 1300, 270, 1301, 1302, 1303, 1304, 1305, 1306, 1307, 1308, 1309, 1310, 1311, 1312, 1313, 1314, 1315, 1854, 1855, 1856, 1857, 1858, 1859, 1860, 1861, 1862, 1863, 1864, 1865, 1866, 1867, 1868, 1869, 1870, 1871, 1872, 1873, 1874, 1958, 1959, 1960, 1961, 1962, 1963, 1964, 1965, 1966, 1967, 1968, 1969, 1994, 1995, 1996, 1997, 1955, 1956, 1957] (by decide +kernel) (by decide +kernel)) (goodIn_sub (fun _ h => List.mem_append_left _ (List.mem_append_left _ (List.mem_append_left _ (List.mem_append_left _ (List.mem_append_left _ (List.mem_append_left _ (List.mem_append_left _ (List.mem_append_right _ h)))))))) (by decide +kernel))
set_option maxRecDepth 20000 in
theorem gL_law_X15_checksum : GoodIn wsL_law (wsV RL 303 RX15 yX15_checksum wsX15_checksum) := goodIn_app (goodIn_of _ (by decide +kernel)) ggL_law_X15_checksum
theorem dL_law_2756 : decode cL_law 2756 = .ok (.invokevirtual 303, 3) := by decide +kernel
theorem dL_law_2759 : decode cL_law 2759 = .ok (.lcmp, 1) := by decide +kernel
theorem dL_law_2760 : decode cL_law 2760 = .ok (.ifCond .eq 18, 3) := by decide +kernel
theorem dL_law_2765 : decode cL_law 2765 = .ok (.aload_n 1, 1) := by decide +kernel
set_option maxRecDepth 20000 in
theorem ggL_law_X11_isSound : GoodIn wsL_law wsX11_isSound := goodIn_ca (goodIn_ca (goodIn_r _ [1833, 17, 21, 330, 331, 332, 2, 333, 334, 335, 16, 1834, 1835, 1836, 20, 1837, 44, 57, 1838, 784, 1839, 1080, 1081, 1082, 794, 795, 796, 1083, 1084, 285, 1085, 52, 1086, 1087, 1088, 1089, 788, 459, 460, 43, 461, 462, 463, 464, 465, 72, 65, 66, 67, 68, 69, 70, 466, 467, 299, 468, 469, 470, 471, 472, 473, 474, 311, 312, 475, 284, 286, 476, 477, 478, 479, 480, 349, 350, 120, 351, 144, 145, 141, 481, 482, 483, 484, 485, 486, 487, 488, 489, 490, 491, 492, 493, 789, 542, 543, 544, 790, 565, 566, 567, 1090, 1091, 1092, 1093, 53, 1094, 1095, 826, 827, 828, 1096, 1097, 1098, 1099, 1100, 1101, 1102, 1103, 1104, 1105, 1106, 816, 817, 818, 819, 314, 315, 316, 1107, 843, 844, 845, 846, 847, 848, 51, 849, 89, 850, 851, 852, 853, 91, 90, 93, 92, 854, 855, 856, 857, 352, 353, 858, 859, 860, 861, 862, 863, 864, 728, 729, 865, 866, 867, 868, 869, 870, 871, 872, 873, 874, 875, 876, 877, 878, 879, 880, 881, 882, 883, 1108, 1109, 1110, 1111, 61, 787, 884, 885, 886, 60, 887, 109, 108, 110, 111, 112, 114, 113, 888, 889, 890, 891, 892, 893, 894, 895, 896, 897, 898, 899, 900, 901, 902, 903, 904, 905, 906, 907, 908, 909, 910, 911, 912, 913, 914, 915, 916, 917, 1840, 1035, 1036, 1037, 138, 1841, 704, 705, 706, 707, 708, 709, 56, 710, 98, 99, 100, 97, 101, 104, 711, 712, 713, 714, 715, 716, 717, 718, 719, 720, 721, 722, 723, 724, 725, 726, 727, 102, 103, 730, 731, 732, 733, 734, 735, 736, 737, 738, 739, 740, 741, 742, 743, 1842, 681, 682, 683, 684, 685, 1847, 1848, 1849, 1850, 1851, 1852, 1853, 1875, 1876, 1877, 1878, 1879, 1880, 1929, 1930, 1931, 1932, 1933, 1934, 1935, 1936, 1908, 1909, 1910, 1911, 1912, 1913, 1914, 1944, 1945, 1946, 1947, 1948, 1949, 1950, 1951, 1952, 1953, 1954, 1924, 1925, 1926, 1927, 1928, 1937, 1938, 1939, 1940, 1941, 1942, 1943] (by decide +kernel) (by decide +kernel)) (goodIn_sub (fun _ h => List.mem_append_left _ (List.mem_append_left _ (List.mem_append_left _ (List.mem_append_left _ (List.mem_append_right _ h))))) (by decide +kernel))) (goodIn_sub (fun _ h => List.mem_append_left _ (List.mem_append_left _ (List.mem_append_left _ (List.mem_append_left _ (List.mem_append_left _ (List.mem_append_left _ (List.mem_append_left _ (List.mem_append_right _ h)))))))) (by decide +kernel))
set_option maxRecDepth 20000 in
theorem gL_law_X11_isSound : GoodIn wsL_law (wsV RL 304 RX11 yX11_isSound wsX11_isSound) := goodIn_app (goodIn_of _ (by decide +kernel)) ggL_law_X11_isSound
theorem dL_law_2766 : decode cL_law 2766 = .ok (.invokevirtual 304, 3) := by decide +kernel
theorem dL_law_2769 : decode cL_law 2769 = .ok (.aload_n 2, 1) := by decide +kernel
set_option maxRecDepth 20000 in
theorem ggL_law_X15_isSound : GoodIn wsL_law wsX15_isSound := goodIn_r _ [1846, 240, 1854, 1855, 1856, 1857, 1858, 1859, 1860, 1861, 1862, 1863, 1864, 1865, 1866, 1867, 1868, 1869, 1870, 1871, 1872, 1873, 1874] (by decide +kernel) (by decide +kernel)
set_option maxRecDepth 20000 in
theorem gL_law_X15_isSound : GoodIn wsL_law (wsV RL 307 RX15 yX15_isSound wsX15_isSound) := goodIn_app (goodIn_of _ (by decide +kernel)) ggL_law_X15_isSound
theorem dL_law_2770 : decode cL_law 2770 = .ok (.invokevirtual 307, 3) := by decide +kernel
theorem dL_law_2773 : decode cL_law 2773 = .ok (.if_icmp .eq 5, 3) := by decide +kernel
set_option maxHeartbeats 8000000 in
set_option maxRecDepth 100000 in
/-- the law: law_0_machine -/
theorem law_0_machine {p : Program} {e : Env} {s : State} {m : MethodId} {below : List Frame} {meth : Method} {c : Code} {l : Launch} {b : Nat} {xs : Nat → Int32} (hx : p.tables.exec = Jvm.exec) (hb : c.code = cL_law) (hr : meth.sig.returnType = ret) (hml : c.maxLocals = 9) (hfl : l.stackTraces = false) (hown : s.vm.findClass RL = some m.cls) (hts : ∀ w ∈ wsL_law, w.before #[Value.ref b] s = true) (hX : va_X b 7 xs s s.heap) (hbl : b < s.heap.size) (hlocks : meth.locks = false) {A : Nat → Prop} (hbA : ¬ A b) (hAo : ∀ q, A q → s.heap.size ≤ q) (hA : ∀ q : Nat, s.heap.size ≤ q → A q) (dC : Nat → ClassId) (dI : Nat → Nat → Nat) (hN : nwA s) (e0 : Nat) (aK aV : Nat → Nat) (hZ : zX A s s.heap ∧ zM e0 aK aV A s s.heap) (ya ms ju rj tj ro rn tn rh th ca sa da xa wb z1 z2 jt z3 br z4 z5 z6 lk z7 z8 li bm l2 z9 bo h2 mm l1 z10 oo h1 ct cr cu cg cp co tg ts tr tk te fw fo fu xm ml cl fl rg tR ou od kn : Nat) (cI cM cS cL cD cB : ClassId) {H : Heap} {locs : List Loc} (hP : va_P (dC, dI) vwCl [(ya, .inr (16, [.ref ms, .int 0, .ref ju, .ref li, .ref ct, .ref tg, .ref fw])), (ms, .inl (cM, 16, .inr (.inr (.inr (.inr (fun _ => none)))))), (ou, .inl (cL, 1, .inr (.inl (fun _ => 0)))), (xm, .inr (20, [.int 0, .int 0, .ref kn, .int 0, .int 0, .int 0, .ref ml, .ref cl, .ref rg, .ref tR, .ref (aK 0), .ref (aK 0), .ref fl, .int 0, .int 0, .int 0, .int 0, .int 0, .int 0, .int 0, .null])), (ml, .inr (4, [.int 0, .ref e0, .int 0]))] H) (hD : va_D A [(ya, .inr (16, [.ref ms, .int 0, .ref ju, .ref li, .ref ct, .ref tg, .ref fw])), (ms, .inl (cM, 16, .inr (.inr (.inr (.inr (fun _ => none)))))), (ou, .inl (cL, 1, .inr (.inl (fun _ => 0)))), (xm, .inr (20, [.int 0, .int 0, .ref kn, .int 0, .int 0, .int 0, .ref ml, .ref cl, .ref rg, .ref tR, .ref (aK 0), .ref (aK 0), .ref fl, .int 0, .int 0, .int 0, .int 0, .int 0, .int 0, .int 0, .null])), (ml, .inr (4, [.int 0, .ref e0, .int 0]))]) (hK : va_K (dC, dI) vwCl [(cI, .int), (cM, .object "Beaverhall$Machine"), (cL, .long)] s) (hS : va_S A s.heap H locs) {ls : Array Slot} (hl : lv_has ls 9 [(0, .ref b), (1, .ref ya), (2, .ref xm), (3, .ref ou), (4, .ref od), (5, .int 0)]) : W p l e room_1 s m #[Value.ref b] below meth c H locs 200 60000 (lw_Z below #[Value.ref b] s) (F0 m 232 ls []) := by
  obtain ⟨s1, hs1⟩ : ∃ z, z = xs ((0 : Int32) + 1).toNatClampNeg := ⟨_, rfl⟩
  obtain ⟨s2, hs2⟩ : ∃ z, z = xs ((0 : Int32) + 2).toNatClampNeg := ⟨_, rfl⟩
  obtain ⟨s3, hs3⟩ : ∃ z, z = xs ((0 : Int32) + 3).toNatClampNeg := ⟨_, rfl⟩
  obtain ⟨s4, hs4⟩ : ∃ z, z = xs ((0 : Int32) + 4).toNatClampNeg := ⟨_, rfl⟩
  obtain ⟨s5, hs5⟩ : ∃ z, z = xs ((0 : Int32) + 5).toNatClampNeg := ⟨_, rfl⟩
  obtain ⟨s6, hs6⟩ : ∃ z, z = xs ((0 : Int32) + 6).toNatClampNeg := ⟨_, rfl⟩
  obtain ⟨k1, hk1⟩ : ∃ z, z = (s1.toUInt32 % 65536).toInt32 := ⟨_, rfl⟩
  obtain ⟨k2, hk2⟩ : ∃ z, z = (s2.toUInt32 % 65536).toInt32 := ⟨_, rfl⟩
  obtain ⟨k3, hk3⟩ : ∃ z, z = (s3.toUInt32 % 65536).toInt32 := ⟨_, rfl⟩
  obtain ⟨k4, hk4⟩ : ∃ z, z = (s4.toUInt32 % 65536).toInt32 := ⟨_, rfl⟩
  obtain ⟨k5, hk5⟩ : ∃ z, z = (s5.toUInt32 % 65536).toInt32 := ⟨_, rfl⟩
  obtain ⟨k6, hk6⟩ : ∃ z, z = (s6.toUInt32 % 65536).toInt32 := ⟨_, rfl⟩
  refine lv_aload_n hx hb dL_law_232 rfl (lv_at hl 1 rfl) ?_
  refine lv_aload_n hx hb dL_law_233 rfl (lv_at hl 0 rfl) ?_
  refine lv_iload hx hb dL_law_234 (lv_at hl 5 rfl) ?_
  refine lv_iconst (v := 1) hx hb dL_law_236 (by decide) ?_
  refine lv_iadd hx hb dL_law_237 ?_
  refine va_sld hx hb hX hbl hbA hS sx1 dL_law_238 ?_
  refine lv_topi (fun x_1 ex_1 => ?_)
  obtain rfl : s1 = x_1 := (ex_1.trans hs1.symm).symm
  refine lv_i2c hx hb dL_law_239 rfl ?_
  refine lv_topi (fun x_2 ex_2 => ?_)
  obtain rfl : k1 = x_2 := (ex_2.trans hk1.symm).symm
  refine lv_aload_n hx hb dL_law_240 rfl (lv_at hl 0 rfl) ?_
  refine lv_iload hx hb dL_law_241 (lv_at hl 5 rfl) ?_
  refine lv_iconst (v := 2) hx hb dL_law_243 (by decide) ?_
  refine lv_iadd hx hb dL_law_244 ?_
  refine va_sld hx hb hX hbl hbA hS sx2 dL_law_245 ?_
  refine lv_topi (fun x_3 ex_3 => ?_)
  obtain rfl : s2 = x_3 := (ex_3.trans hs2.symm).symm
  refine lv_aload_n hx hb dL_law_246 rfl (lv_at hl 0 rfl) ?_
  refine lv_iload hx hb dL_law_247 (lv_at hl 5 rfl) ?_
  refine lv_iconst (v := 3) hx hb dL_law_249 (by decide) ?_
  refine lv_iadd hx hb dL_law_250 ?_
  refine va_sld hx hb hX hbl hbA hS sx3 dL_law_251 ?_
  refine lv_topi (fun x_4 ex_4 => ?_)
  obtain rfl : s3 = x_4 := (ex_4.trans hs3.symm).symm
  refine lv_aload_n hx hb dL_law_252 rfl (lv_at hl 3 rfl) ?_
  have hPc := hP.sub (ws' := [(ya, .inr (16, [.ref ms, .int 0, .ref ju, .ref li, .ref ct, .ref tg, .ref fw])), (ms, .inl (cM, 16, .inr (.inr (.inr (.inr (fun _ => none)))))), (ou, .inl (cL, 1, .inr (.inl (fun _ => 0))))]) [0, 1, 2] rfl
  have hDc := hD.sub (ws' := [(ya, .inr (16, [.ref ms, .int 0, .ref ju, .ref li, .ref ct, .ref tg, .ref fw])), (ms, .inl (cM, 16, .inr (.inr (.inr (.inr (fun _ => none)))))), (ou, .inl (cL, 1, .inr (.inl (fun _ => 0))))]) [0, 1, 2] (by decide) rfl
  have hKc := hK.sub (tys' := [(cI, .int), (cM, .object "Beaverhall$Machine"), (cL, .long)]) [0, 1, 2] rfl
  have hFc := va_free (wc := [(ya, .inr (16, [.ref ms, .int 0, .ref ju, .ref li, .ref ct, .ref tg, .ref fw])), (ms, .inl (cM, 16, .inr (.inr (.inr (.inr (fun _ => none)))))), (ou, .inl (cL, 1, .inr (.inl (fun _ => 0))))]) hD hS hA [0, 1, 2] rfl
  refine vx_calli (vx_runSX (As := [.ref ya, .int k1, .int s2, .int s3, .ref ou]) (rest := []) ⟨hx, hb, hml, hown, hts⟩ (c_L_machine l hfl dC dI cI cM ya ms ju li ct tg fw k1 s2 s3 cL ou (fun _ => 0) H.size) (vx_cwSW 5 hts gL_law_L_machine rfl rfl rfl (by decide +kernel) ⟨Nat.le_of_ble_eq_true rfl, Nat.le_of_ble_eq_true rfl⟩) (pcSz (zX_ok) hPc hDc hKc hN hZ.1 hS hFc) rfl rfl hl.1 rfl (lv_room (Nat.le_of_ble_eq_true rfl)) dL_law_253 ⟨Nat.le_of_ble_eq_true rfl, Nat.le_of_ble_eq_true rfl⟩) hS (fun q _ h => hFc q h) hFc (fun q _ h => hFc q h) (fun E9 ce9 q9 u9 t9 H9 locs9 ht9 hvm9 hp9 hE9 hz9 hk9 hS9 hc9 hv9 hcl9 => hE9.elim) (fun r_6 u t H1 locs ht hvm hw_7 hB hz1 hk1 hS => ?_)
  obtain of_5 := u
  obtain ⟨hP1, hK1, hD1⟩ := hB
  rw [ht] at hP1
  try dsimp only at hw_7
  obtain ⟨hP, hD⟩ := va_join (wr := [(xm, .inr (20, [.int 0, .int 0, .ref kn, .int 0, .int 0, .int 0, .ref ml, .ref cl, .ref rg, .ref tR, .ref (aK 0), .ref (aK 0), .ref fl, .int 0, .int 0, .int 0, .int 0, .int 0, .int 0, .int 0, .null])), (ml, .inr (4, [.int 0, .ref e0, .int 0]))]) (w1 := [(ou, .inl (cL, 1, .inr (.inl of_5)))]) hP hD [0, 1, 2] [3, 4] rfl rfl (by decide) (by decide) hk1 hFc hP1 hD1
  generalize H1 = H at hP hS ⊢
  have hP : va_P (dC, dI) vwCl [(xm, .inr (20, [.int 0, .int 0, .ref kn, .int 0, .int 0, .int 0, .ref ml, .ref cl, .ref rg, .ref tR, .ref (aK 0), .ref (aK 0), .ref fl, .int 0, .int 0, .int 0, .int 0, .int 0, .int 0, .int 0, .null])), (ml, .inr (4, [.int 0, .ref e0, .int 0])), (ou, .inl (cL, 1, .inr (.inl of_5)))] H := hP
  have hD : va_D A [(xm, .inr (20, [.int 0, .int 0, .ref kn, .int 0, .int 0, .int 0, .ref ml, .ref cl, .ref rg, .ref tR, .ref (aK 0), .ref (aK 0), .ref fl, .int 0, .int 0, .int 0, .int 0, .int 0, .int 0, .int 0, .null])), (ml, .inr (4, [.int 0, .ref e0, .int 0])), (ou, .inl (cL, 1, .inr (.inl of_5)))] := hD
  refine W.widen (k := 207) (n := 61059) (Nat.le_of_ble_eq_true rfl) (Nat.le_of_ble_eq_true rfl) ?_
  rcases hw_7 with ⟨hr0, hPP, hv0⟩ | ⟨hr0, hPP⟩
  · obtain rfl : r_6 = 0 := hr0
    refine lv_istore (lv' := [(6, .int 0), (0, .ref b), (1, .ref ya), (2, .ref xm), (3, .ref ou), (4, .ref od), (5, .int 0)]) hx hb dL_law_256 hl (by decide) rfl (fun ls hl => ?_)
    refine lv_aload_n hx hb dL_law_258 rfl (lv_at hl 3 rfl) ?_
    refine lv_aload_n hx hb dL_law_259 rfl (lv_at hl 1 rfl) ?_
    refine lv_iload hx hb dL_law_260 (lv_at hl 6 rfl) ?_
    refine lv_iconst (v := 1) hx hb dL_law_262 (by decide) ?_
    refine lv_iadd hx hb dL_law_263 ?_
    refine va_sld hx hb hX hbl hbA hS sx1 dL_law_264 ?_
    refine lv_topi (fun x_8 ex_8 => ?_)
    obtain rfl : s1 = x_8 := (ex_8.trans hs1.symm).symm
    refine lv_i2c hx hb dL_law_265 rfl ?_
    refine lv_topi (fun x_9 ex_9 => ?_)
    obtain rfl : k1 = x_9 := (ex_9.trans hk1.symm).symm
    refine lv_aload_n hx hb dL_law_266 rfl (lv_at hl 1 rfl) ?_
    refine lv_iload hx hb dL_law_267 (lv_at hl 6 rfl) ?_
    refine lv_iconst (v := 2) hx hb dL_law_269 (by decide) ?_
    refine lv_iadd hx hb dL_law_270 ?_
    refine va_sld hx hb hX hbl hbA hS sx2 dL_law_271 ?_
    refine lv_topi (fun x_10 ex_10 => ?_)
    obtain rfl : s2 = x_10 := (ex_10.trans hs2.symm).symm
    refine lv_aload_n hx hb dL_law_272 rfl (lv_at hl 1 rfl) ?_
    refine lv_iload hx hb dL_law_273 (lv_at hl 6 rfl) ?_
    refine lv_iconst (v := 3) hx hb dL_law_275 (by decide) ?_
    refine lv_iadd hx hb dL_law_276 ?_
    refine va_sld hx hb hX hbl hbA hS sx3 dL_law_277 ?_
    refine lv_topi (fun x_11 ex_11 => ?_)
    obtain rfl : s3 = x_11 := (ex_11.trans hs3.symm).symm
    have hPc := hP.sub (ws' := [(xm, .inr (20, [.int 0, .int 0, .ref kn, .int 0, .int 0, .int 0, .ref ml, .ref cl, .ref rg, .ref tR, .ref (aK 0), .ref (aK 0), .ref fl, .int 0, .int 0, .int 0, .int 0, .int 0, .int 0, .int 0, .null])), (ml, .inr (4, [.int 0, .ref e0, .int 0]))]) [0, 1] rfl
    have hDc := hD.sub (ws' := [(xm, .inr (20, [.int 0, .int 0, .ref kn, .int 0, .int 0, .int 0, .ref ml, .ref cl, .ref rg, .ref tR, .ref (aK 0), .ref (aK 0), .ref fl, .int 0, .int 0, .int 0, .int 0, .int 0, .int 0, .int 0, .null])), (ml, .inr (4, [.int 0, .ref e0, .int 0]))]) [0, 1] (by decide) rfl
    have hKc := hK.sub (tys' := [(cI, .int)]) [0] rfl
    have hFc := va_free (wc := [(xm, .inr (20, [.int 0, .int 0, .ref kn, .int 0, .int 0, .int 0, .ref ml, .ref cl, .ref rg, .ref tR, .ref (aK 0), .ref (aK 0), .ref fl, .int 0, .int 0, .int 0, .int 0, .int 0, .int 0, .int 0, .null])), (ml, .inr (4, [.int 0, .ref e0, .int 0]))]) hD hS hA [0, 1] rfl
    refine va_calli (va_runV (As := [.int k1, .int s2, .int s3]) (rest := []) ⟨hx, hb, hml, hown, hts⟩ (c_X15_machine l dC dI xm ml cl fl kn rg tR e0 aK aV cI k1 s2 s3 H.size) (cwV 3 hts gL_law_X15_machine rfl rfl rfl (by decide +kernel) ⟨Nat.le_of_ble_eq_true rfl, Nat.le_of_ble_eq_true rfl⟩) (pcVz (zM_ok e0 aK aV) hPc hDc hKc hN hZ.2 hS hFc (ci := 20) (q0 := 0) rfl rfl) rfl rfl hl.1 rfl (lv_room (Nat.le_of_ble_eq_true rfl)) dL_law_278 ⟨Nat.le_of_ble_eq_true rfl, Nat.le_of_ble_eq_true rfl⟩) hS (fun q _ h => hFc q h) hFc (fun r_13 u t H1 locs ht hvm hw_14 hB hz1 hk1 hS => ?_)
    obtain fs_12 := u
    obtain ⟨hP1, hK1, hD1⟩ := hB
    rw [ht] at hP1
    try dsimp only at hw_14
    obtain ⟨hP, hD⟩ := va_join (wr := [(ou, .inl (cL, 1, .inr (.inl of_5)))]) (w1 := [(xm, .inr (20, fs_12))]) hP hD [0, 1] [2] rfl rfl (by decide) (by decide) hk1 hFc hP1 hD1
    generalize H1 = H at hP hS ⊢
    have hP : va_P (dC, dI) vwCl [(ou, .inl (cL, 1, .inr (.inl of_5))), (xm, .inr (20, fs_12))] H := hP
    have hD : va_D A [(ou, .inl (cL, 1, .inr (.inl of_5))), (xm, .inr (20, fs_12))] := hD
    refine W.widen (k := 213) (n := 61157) (Nat.le_of_ble_eq_true rfl) (Nat.le_of_ble_eq_true rfl) ?_
    obtain ⟨ht9, hrv⟩ := hw_14.elim (fun h => h.2) (fun h => absurd hPP h.1)
    obtain rfl : r_13 = 0 := hrv
    refine lv_istore (lv' := [(7, .int 0), (6, .int 0), (0, .ref b), (1, .ref ya), (2, .ref xm), (3, .ref ou), (4, .ref od), (5, .int 0)]) hx hb dL_law_281 hl (by decide) rfl (fun ls hl => ?_)
    refine lv_aload_n hx hb dL_law_283 rfl (lv_at hl 4 rfl) ?_
    have hPc := hP.sub (ws' := [(xm, .inr (20, fs_12))]) [1] rfl
    have hDc := hD.sub (ws' := [(xm, .inr (20, fs_12))]) [1] (by decide) rfl
    have hKc := hK.sub (tys' := []) [] rfl
    have hFc := va_free (wc := [(xm, .inr (20, fs_12))]) hD hS hA [1] rfl
    refine va_calli (va_runV (As := []) (rest := []) ⟨hx, hb, hml, hown, hts⟩ (c_X15_thrown l dC dI xm fs_12 0 ht9 H.size) (cwV 0 hts gL_law_X15_thrown rfl rfl rfl (by decide +kernel) ⟨Nat.le_of_ble_eq_true rfl, Nat.le_of_ble_eq_true rfl⟩) (pcV hPc hDc hKc hN (ci := 20) (q0 := 0) rfl rfl) rfl rfl hl.1 rfl (lv_room (Nat.le_of_ble_eq_true rfl)) dL_law_284 ⟨Nat.le_of_ble_eq_true rfl, Nat.le_of_ble_eq_true rfl⟩) hS (fun q _ h => hFc q h) hFc (fun r_15 u t H1 locs ht hvm hw_16 hB hz1 hk1 hS => ?_)
    obtain ⟨hP1, hK1, hD1⟩ := hB
    rw [ht] at hP1
    try dsimp only at hw_16
    obtain ⟨hP, hD⟩ := va_join (wr := [(ou, .inl (cL, 1, .inr (.inl of_5)))]) (w1 := []) hP hD [1] [0] rfl rfl (by decide) (by decide) hk1 hFc hP1 hD1
    generalize H1 = H at hP hS ⊢
    have hP : va_P (dC, dI) vwCl [(ou, .inl (cL, 1, .inr (.inl of_5)))] H := hP
    have hD : va_D A [(ou, .inl (cL, 1, .inr (.inl of_5)))] := hD
    obtain rfl : r_15 = 0 := hw_16
    refine lv_iload hx hb dL_law_287 (lv_at hl 1 rfl) ?_
    refine lv_icmp_eq (tgt := 294) hx hb dL_law_289 (by decide) (fun c289_17 => ?_) (fun c289_17 => ?_)
    · refine lv_iload hx hb dL_law_294 (lv_at hl 1 rfl) ?_
      refine lv_if_ne (tgt := 311) hx hb dL_law_296 (by decide) (fun c296_18 => ?_) (fun c296_18 => ?_)
      · exact (c296_18 (by decide)).elim
      · refine lv_aload_n hx hb dL_law_299 rfl (lv_at hl 5 rfl) ?_
        refine lv_iconst (v := 0) hx hb dL_law_300 (by decide) ?_
        refine va_lald hx hb hK hP 0 2 rfl rfl (show vp_in (nI 0) 1 from vp_in_nI (by decide) (by decide)) dL_law_301 ?_
        refine lv_topl (fun z_19 ez_19 => ?_)
        obtain rfl : z_19 = (0 : Int32).toInt64 := by rw [ez_19, show (0 : Int32).toNatClampNeg = 0 from by decide]; exact hv0
        refine lv_iload hx hb dL_law_302 (lv_at hl 0 rfl) ?_
        refine lv_i2l hx hb dL_law_304 rfl ?_
        refine W.lcmp hx hb dL_law_305 ?_
        refine lv_if_eq (tgt := 311) hx hb dL_law_306 (by decide) (fun c306_20 => ?_) (fun c306_20 => ?_)
        · refine lv_goto (tgt := 2778) hx hb dL_law_311 (by decide) ?_
          refine W.widen (k := 600006) (n := 7302039) (Nat.le_of_ble_eq_true rfl) (Nat.le_of_ble_eq_true rfl) ?_
          exact law_end hx hb hr hml hX hbl hlocks hbA hAo hS (lv_sub hl [2, 7] rfl)
        · exact absurd ((lg_cmp_eq _ _).mpr rfl) c306_20
    · exact (c289_17 (by decide)).elim
  · obtain rfl : r_6 = 1 := hr0
    refine lv_istore (lv' := [(6, .int 1), (0, .ref b), (1, .ref ya), (2, .ref xm), (3, .ref ou), (4, .ref od), (5, .int 0)]) hx hb dL_law_256 hl (by decide) rfl (fun ls hl => ?_)
    refine lv_aload_n hx hb dL_law_258 rfl (lv_at hl 3 rfl) ?_
    refine lv_aload_n hx hb dL_law_259 rfl (lv_at hl 1 rfl) ?_
    refine lv_iload hx hb dL_law_260 (lv_at hl 6 rfl) ?_
    refine lv_iconst (v := 1) hx hb dL_law_262 (by decide) ?_
    refine lv_iadd hx hb dL_law_263 ?_
    refine va_sld hx hb hX hbl hbA hS sx1 dL_law_264 ?_
    refine lv_topi (fun x_21 ex_21 => ?_)
    obtain rfl : s1 = x_21 := (ex_21.trans hs1.symm).symm
    refine lv_i2c hx hb dL_law_265 rfl ?_
    refine lv_topi (fun x_22 ex_22 => ?_)
    obtain rfl : k1 = x_22 := (ex_22.trans hk1.symm).symm
    refine lv_aload_n hx hb dL_law_266 rfl (lv_at hl 1 rfl) ?_
    refine lv_iload hx hb dL_law_267 (lv_at hl 6 rfl) ?_
    refine lv_iconst (v := 2) hx hb dL_law_269 (by decide) ?_
    refine lv_iadd hx hb dL_law_270 ?_
    refine va_sld hx hb hX hbl hbA hS sx2 dL_law_271 ?_
    refine lv_topi (fun x_23 ex_23 => ?_)
    obtain rfl : s2 = x_23 := (ex_23.trans hs2.symm).symm
    refine lv_aload_n hx hb dL_law_272 rfl (lv_at hl 1 rfl) ?_
    refine lv_iload hx hb dL_law_273 (lv_at hl 6 rfl) ?_
    refine lv_iconst (v := 3) hx hb dL_law_275 (by decide) ?_
    refine lv_iadd hx hb dL_law_276 ?_
    refine va_sld hx hb hX hbl hbA hS sx3 dL_law_277 ?_
    refine lv_topi (fun x_24 ex_24 => ?_)
    obtain rfl : s3 = x_24 := (ex_24.trans hs3.symm).symm
    have hPc := hP.sub (ws' := [(xm, .inr (20, [.int 0, .int 0, .ref kn, .int 0, .int 0, .int 0, .ref ml, .ref cl, .ref rg, .ref tR, .ref (aK 0), .ref (aK 0), .ref fl, .int 0, .int 0, .int 0, .int 0, .int 0, .int 0, .int 0, .null])), (ml, .inr (4, [.int 0, .ref e0, .int 0]))]) [0, 1] rfl
    have hDc := hD.sub (ws' := [(xm, .inr (20, [.int 0, .int 0, .ref kn, .int 0, .int 0, .int 0, .ref ml, .ref cl, .ref rg, .ref tR, .ref (aK 0), .ref (aK 0), .ref fl, .int 0, .int 0, .int 0, .int 0, .int 0, .int 0, .int 0, .null])), (ml, .inr (4, [.int 0, .ref e0, .int 0]))]) [0, 1] (by decide) rfl
    have hKc := hK.sub (tys' := [(cI, .int)]) [0] rfl
    have hFc := va_free (wc := [(xm, .inr (20, [.int 0, .int 0, .ref kn, .int 0, .int 0, .int 0, .ref ml, .ref cl, .ref rg, .ref tR, .ref (aK 0), .ref (aK 0), .ref fl, .int 0, .int 0, .int 0, .int 0, .int 0, .int 0, .int 0, .null])), (ml, .inr (4, [.int 0, .ref e0, .int 0]))]) hD hS hA [0, 1] rfl
    refine va_calli (va_runV (As := [.int k1, .int s2, .int s3]) (rest := []) ⟨hx, hb, hml, hown, hts⟩ (c_X15_machine l dC dI xm ml cl fl kn rg tR e0 aK aV cI k1 s2 s3 H.size) (cwV 3 hts gL_law_X15_machine rfl rfl rfl (by decide +kernel) ⟨Nat.le_of_ble_eq_true rfl, Nat.le_of_ble_eq_true rfl⟩) (pcVz (zM_ok e0 aK aV) hPc hDc hKc hN hZ.2 hS hFc (ci := 20) (q0 := 0) rfl rfl) rfl rfl hl.1 rfl (lv_room (Nat.le_of_ble_eq_true rfl)) dL_law_278 ⟨Nat.le_of_ble_eq_true rfl, Nat.le_of_ble_eq_true rfl⟩) hS (fun q _ h => hFc q h) hFc (fun r_26 u t H1 locs ht hvm hw_27 hB hz1 hk1 hS => ?_)
    obtain fs_25 := u
    obtain ⟨hP1, hK1, hD1⟩ := hB
    rw [ht] at hP1
    try dsimp only at hw_27
    obtain ⟨hP, hD⟩ := va_join (wr := [(ou, .inl (cL, 1, .inr (.inl of_5)))]) (w1 := [(xm, .inr (20, fs_25))]) hP hD [0, 1] [2] rfl rfl (by decide) (by decide) hk1 hFc hP1 hD1
    generalize H1 = H at hP hS ⊢
    have hP : va_P (dC, dI) vwCl [(ou, .inl (cL, 1, .inr (.inl of_5))), (xm, .inr (20, fs_25))] H := hP
    have hD : va_D A [(ou, .inl (cL, 1, .inr (.inl of_5))), (xm, .inr (20, fs_25))] := hD
    refine W.widen (k := 213) (n := 61157) (Nat.le_of_ble_eq_true rfl) (Nat.le_of_ble_eq_true rfl) ?_
    have ht9 := hw_27.elim (fun h => absurd h.1 hPP) (fun h => h.2)
    refine lv_istore (lv' := [(7, .int r_26), (6, .int 1), (0, .ref b), (1, .ref ya), (2, .ref xm), (3, .ref ou), (4, .ref od), (5, .int 0)]) hx hb dL_law_281 hl (by decide) rfl (fun ls hl => ?_)
    refine lv_aload_n hx hb dL_law_283 rfl (lv_at hl 4 rfl) ?_
    have hPc := hP.sub (ws' := [(xm, .inr (20, fs_25))]) [1] rfl
    have hDc := hD.sub (ws' := [(xm, .inr (20, fs_25))]) [1] (by decide) rfl
    have hKc := hK.sub (tys' := []) [] rfl
    have hFc := va_free (wc := [(xm, .inr (20, fs_25))]) hD hS hA [1] rfl
    refine va_calli (va_runV (As := []) (rest := []) ⟨hx, hb, hml, hown, hts⟩ (c_X15_thrown l dC dI xm fs_25 1 ht9 H.size) (cwV 0 hts gL_law_X15_thrown rfl rfl rfl (by decide +kernel) ⟨Nat.le_of_ble_eq_true rfl, Nat.le_of_ble_eq_true rfl⟩) (pcV hPc hDc hKc hN (ci := 20) (q0 := 0) rfl rfl) rfl rfl hl.1 rfl (lv_room (Nat.le_of_ble_eq_true rfl)) dL_law_284 ⟨Nat.le_of_ble_eq_true rfl, Nat.le_of_ble_eq_true rfl⟩) hS (fun q _ h => hFc q h) hFc (fun r_28 u t H1 locs ht hvm hw_29 hB hz1 hk1 hS => ?_)
    obtain ⟨hP1, hK1, hD1⟩ := hB
    rw [ht] at hP1
    try dsimp only at hw_29
    obtain ⟨hP, hD⟩ := va_join (wr := [(ou, .inl (cL, 1, .inr (.inl of_5)))]) (w1 := []) hP hD [1] [0] rfl rfl (by decide) (by decide) hk1 hFc hP1 hD1
    generalize H1 = H at hP hS ⊢
    have hP : va_P (dC, dI) vwCl [(ou, .inl (cL, 1, .inr (.inl of_5)))] H := hP
    have hD : va_D A [(ou, .inl (cL, 1, .inr (.inl of_5)))] := hD
    obtain rfl : r_28 = 1 := hw_29
    refine lv_iload hx hb dL_law_287 (lv_at hl 1 rfl) ?_
    refine lv_icmp_eq (tgt := 294) hx hb dL_law_289 (by decide) (fun c289_30 => ?_) (fun c289_30 => ?_)
    · refine lv_iload hx hb dL_law_294 (lv_at hl 1 rfl) ?_
      refine lv_if_ne (tgt := 311) hx hb dL_law_296 (by decide) (fun c296_31 => ?_) (fun c296_31 => ?_)
      · refine lv_goto (tgt := 2778) hx hb dL_law_311 (by decide) ?_
        refine W.widen (k := 600006) (n := 7302039) (Nat.le_of_ble_eq_true rfl) (Nat.le_of_ble_eq_true rfl) ?_
        exact law_end hx hb hr hml hX hbl hlocks hbA hAo hS (lv_sub hl [2, 7] rfl)
      · exact absurd c296_31 (by decide)
    · exact (c289_30 (by decide)).elim

set_option maxHeartbeats 8000000 in
set_option maxRecDepth 100000 in
/-- the law: law_1_order -/
theorem law_1_order {p : Program} {e : Env} {s : State} {m : MethodId} {below : List Frame} {meth : Method} {c : Code} {l : Launch} {b : Nat} {xs : Nat → Int32} (hx : p.tables.exec = Jvm.exec) (hb : c.code = cL_law) (hr : meth.sig.returnType = ret) (hml : c.maxLocals = 9) (hfl : l.stackTraces = false) (hown : s.vm.findClass RL = some m.cls) (hts : ∀ w ∈ wsL_law, w.before #[Value.ref b] s = true) (hX : va_X b 7 xs s s.heap) (hbl : b < s.heap.size) (hlocks : meth.locks = false) {A : Nat → Prop} (hbA : ¬ A b) (hAo : ∀ q, A q → s.heap.size ≤ q) (hA : ∀ q : Nat, s.heap.size ≤ q → A q) (dC : Nat → ClassId) (dI : Nat → Nat → Nat) (hN : nwA s) (e0 : Nat) (aK aV : Nat → Nat) (hZ : zX A s s.heap ∧ zM e0 aK aV A s s.heap) (ya ms ju rj tj ro rn tn rh th ca sa da xa wb z1 z2 jt z3 br z4 z5 z6 lk z7 z8 li bm l2 z9 bo h2 mm l1 z10 oo h1 ct cr cu cg cp co tg ts tr tk te fw fo fu xm ml cl fl rg tR ou od kn : Nat) (cI cM cS cL cD cB : ClassId) {H : Heap} {locs : List Loc} (hP : va_P (dC, dI) vwCl [(ya, .inr (16, [.ref ms, .int 0, .ref ju, .ref li, .ref ct, .ref tg, .ref fw])), (ou, .inl (cL, 1, .inr (.inl (fun _ => 0)))), (xm, .inr (20, [.int 0, .int 0, .ref kn, .int 0, .int 0, .int 0, .ref ml, .ref cl, .ref rg, .ref tR, .ref (aK 0), .ref (aK 0), .ref fl, .int 0, .int 0, .int 0, .int 0, .int 0, .int 0, .int 0, .null])), (ml, .inr (4, [.int 0, .ref e0, .int 0]))] H) (hD : va_D A [(ya, .inr (16, [.ref ms, .int 0, .ref ju, .ref li, .ref ct, .ref tg, .ref fw])), (ou, .inl (cL, 1, .inr (.inl (fun _ => 0)))), (xm, .inr (20, [.int 0, .int 0, .ref kn, .int 0, .int 0, .int 0, .ref ml, .ref cl, .ref rg, .ref tR, .ref (aK 0), .ref (aK 0), .ref fl, .int 0, .int 0, .int 0, .int 0, .int 0, .int 0, .int 0, .null])), (ml, .inr (4, [.int 0, .ref e0, .int 0]))]) (hK : va_K (dC, dI) vwCl [(cL, .long)] s) (hS : va_S A s.heap H locs) {ls : Array Slot} (hl : lv_has ls 9 [(0, .ref b), (1, .ref ya), (2, .ref xm), (3, .ref ou), (4, .ref od), (5, .int 0)]) : W p l e room_1 s m #[Value.ref b] below meth c H locs 200 60000 (lw_Z below #[Value.ref b] s) (F0 m 314 ls []) := by
  obtain ⟨s1, hs1⟩ : ∃ z, z = xs ((0 : Int32) + 1).toNatClampNeg := ⟨_, rfl⟩
  obtain ⟨s2, hs2⟩ : ∃ z, z = xs ((0 : Int32) + 2).toNatClampNeg := ⟨_, rfl⟩
  obtain ⟨s3, hs3⟩ : ∃ z, z = xs ((0 : Int32) + 3).toNatClampNeg := ⟨_, rfl⟩
  obtain ⟨s4, hs4⟩ : ∃ z, z = xs ((0 : Int32) + 4).toNatClampNeg := ⟨_, rfl⟩
  obtain ⟨s5, hs5⟩ : ∃ z, z = xs ((0 : Int32) + 5).toNatClampNeg := ⟨_, rfl⟩
  obtain ⟨s6, hs6⟩ : ∃ z, z = xs ((0 : Int32) + 6).toNatClampNeg := ⟨_, rfl⟩
  obtain ⟨k1, hk1⟩ : ∃ z, z = (s1.toUInt32 % 65536).toInt32 := ⟨_, rfl⟩
  obtain ⟨k2, hk2⟩ : ∃ z, z = (s2.toUInt32 % 65536).toInt32 := ⟨_, rfl⟩
  obtain ⟨k3, hk3⟩ : ∃ z, z = (s3.toUInt32 % 65536).toInt32 := ⟨_, rfl⟩
  obtain ⟨k4, hk4⟩ : ∃ z, z = (s4.toUInt32 % 65536).toInt32 := ⟨_, rfl⟩
  obtain ⟨k5, hk5⟩ : ∃ z, z = (s5.toUInt32 % 65536).toInt32 := ⟨_, rfl⟩
  obtain ⟨k6, hk6⟩ : ∃ z, z = (s6.toUInt32 % 65536).toInt32 := ⟨_, rfl⟩
  refine lv_aload_n hx hb dL_law_314 rfl (lv_at hl 1 rfl) ?_
  refine lv_aload_n hx hb dL_law_315 rfl (lv_at hl 0 rfl) ?_
  refine lv_iload hx hb dL_law_316 (lv_at hl 5 rfl) ?_
  refine lv_iconst (v := 1) hx hb dL_law_318 (by decide) ?_
  refine lv_iadd hx hb dL_law_319 ?_
  refine va_sld hx hb hX hbl hbA hS sx1 dL_law_320 ?_
  refine lv_topi (fun x_1 ex_1 => ?_)
  obtain rfl : s1 = x_1 := (ex_1.trans hs1.symm).symm
  refine lv_aload_n hx hb dL_law_321 rfl (lv_at hl 0 rfl) ?_
  refine lv_iload hx hb dL_law_322 (lv_at hl 5 rfl) ?_
  refine lv_iconst (v := 2) hx hb dL_law_324 (by decide) ?_
  refine lv_iadd hx hb dL_law_325 ?_
  refine va_sld hx hb hX hbl hbA hS sx2 dL_law_326 ?_
  refine lv_topi (fun x_2 ex_2 => ?_)
  obtain rfl : s2 = x_2 := (ex_2.trans hs2.symm).symm
  refine lv_aload_n hx hb dL_law_327 rfl (lv_at hl 0 rfl) ?_
  refine lv_iload hx hb dL_law_328 (lv_at hl 5 rfl) ?_
  refine lv_iconst (v := 3) hx hb dL_law_330 (by decide) ?_
  refine lv_iadd hx hb dL_law_331 ?_
  refine va_sld hx hb hX hbl hbA hS sx3 dL_law_332 ?_
  refine lv_topi (fun x_3 ex_3 => ?_)
  obtain rfl : s3 = x_3 := (ex_3.trans hs3.symm).symm
  refine lv_aload_n hx hb dL_law_333 rfl (lv_at hl 0 rfl) ?_
  refine lv_iload hx hb dL_law_334 (lv_at hl 5 rfl) ?_
  refine lv_iconst (v := 4) hx hb dL_law_336 (by decide) ?_
  refine lv_iadd hx hb dL_law_337 ?_
  refine va_sld hx hb hX hbl hbA hS sx4 dL_law_338 ?_
  refine lv_topi (fun x_4 ex_4 => ?_)
  obtain rfl : s4 = x_4 := (ex_4.trans hs4.symm).symm
  refine lv_aload_n hx hb dL_law_339 rfl (lv_at hl 0 rfl) ?_
  refine lv_iload hx hb dL_law_340 (lv_at hl 5 rfl) ?_
  refine lv_iconst (v := 5) hx hb dL_law_342 (by decide) ?_
  refine lv_iadd hx hb dL_law_343 ?_
  refine va_sld hx hb hX hbl hbA hS sx5 dL_law_344 ?_
  refine lv_topi (fun x_5 ex_5 => ?_)
  obtain rfl : s5 = x_5 := (ex_5.trans hs5.symm).symm
  refine lv_i2c hx hb dL_law_345 rfl ?_
  refine lv_topi (fun x_6 ex_6 => ?_)
  obtain rfl : k5 = x_6 := (ex_6.trans hk5.symm).symm
  refine lv_aload_n hx hb dL_law_346 rfl (lv_at hl 0 rfl) ?_
  refine lv_iload hx hb dL_law_347 (lv_at hl 5 rfl) ?_
  refine lv_bipush (v := 6) hx hb dL_law_349 (by decide) ?_
  refine lv_iadd hx hb dL_law_351 ?_
  refine va_sld hx hb hX hbl hbA hS sx6 dL_law_352 ?_
  refine lv_topi (fun x_7 ex_7 => ?_)
  obtain rfl : s6 = x_7 := (ex_7.trans hs6.symm).symm
  refine lv_aload_n hx hb dL_law_353 rfl (lv_at hl 3 rfl) ?_
  have hPc := hP.sub (ws' := [(ya, .inr (16, [.ref ms, .int 0, .ref ju, .ref li, .ref ct, .ref tg, .ref fw])), (ou, .inl (cL, 1, .inr (.inl (fun _ => 0))))]) [0, 1] rfl
  have hDc := hD.sub (ws' := [(ya, .inr (16, [.ref ms, .int 0, .ref ju, .ref li, .ref ct, .ref tg, .ref fw])), (ou, .inl (cL, 1, .inr (.inl (fun _ => 0))))]) [0, 1] (by decide) rfl
  have hKc := hK.sub (tys' := [(cL, .long)]) [0] rfl
  have hFc := va_free (wc := [(ya, .inr (16, [.ref ms, .int 0, .ref ju, .ref li, .ref ct, .ref tg, .ref fw])), (ou, .inl (cL, 1, .inr (.inl (fun _ => 0))))]) hD hS hA [0, 1] rfl
  refine vx_calli (vx_runSX (As := [.ref ya, .int s1, .int s2, .int s3, .int s4, .int k5, .int s6, .ref ou]) (rest := []) ⟨hx, hb, hml, hown, hts⟩ (c_L_order l hfl dC dI ya ms ju li ct tg fw s1 s2 s3 s4 k5 s6 cL ou (fun _ => 0) H.size) (vx_cwSW 8 hts gL_law_L_order rfl rfl rfl (by decide +kernel) ⟨Nat.le_of_ble_eq_true rfl, Nat.le_of_ble_eq_true rfl⟩) (pcSz (zX_ok) hPc hDc hKc hN hZ.1 hS hFc) rfl rfl hl.1 rfl (lv_room (Nat.le_of_ble_eq_true rfl)) dL_law_354 ⟨Nat.le_of_ble_eq_true rfl, Nat.le_of_ble_eq_true rfl⟩) hS (fun q _ h => hFc q h) hFc (fun q _ h => hFc q h) (fun E9 ce9 q9 u9 t9 H9 locs9 ht9 hvm9 hp9 hE9 hz9 hk9 hS9 hc9 hv9 hcl9 => hE9.elim) (fun r_9 u t H1 locs ht hvm hw_10 hB hz1 hk1 hS => ?_)
  obtain of_8 := u
  obtain ⟨hP1, hK1, hD1⟩ := hB
  rw [ht] at hP1
  try dsimp only at hw_10
  obtain ⟨hP, hD⟩ := va_join (wr := [(xm, .inr (20, [.int 0, .int 0, .ref kn, .int 0, .int 0, .int 0, .ref ml, .ref cl, .ref rg, .ref tR, .ref (aK 0), .ref (aK 0), .ref fl, .int 0, .int 0, .int 0, .int 0, .int 0, .int 0, .int 0, .null])), (ml, .inr (4, [.int 0, .ref e0, .int 0]))]) (w1 := [(ou, .inl (cL, 1, .inr (.inl of_8)))]) hP hD [0, 1] [2, 3] rfl rfl (by decide) (by decide) hk1 hFc hP1 hD1
  generalize H1 = H at hP hS ⊢
  have hP : va_P (dC, dI) vwCl [(xm, .inr (20, [.int 0, .int 0, .ref kn, .int 0, .int 0, .int 0, .ref ml, .ref cl, .ref rg, .ref tR, .ref (aK 0), .ref (aK 0), .ref fl, .int 0, .int 0, .int 0, .int 0, .int 0, .int 0, .int 0, .null])), (ml, .inr (4, [.int 0, .ref e0, .int 0])), (ou, .inl (cL, 1, .inr (.inl of_8)))] H := hP
  have hD : va_D A [(xm, .inr (20, [.int 0, .int 0, .ref kn, .int 0, .int 0, .int 0, .ref ml, .ref cl, .ref rg, .ref tR, .ref (aK 0), .ref (aK 0), .ref fl, .int 0, .int 0, .int 0, .int 0, .int 0, .int 0, .int 0, .null])), (ml, .inr (4, [.int 0, .ref e0, .int 0])), (ou, .inl (cL, 1, .inr (.inl of_8)))] := hD
  refine W.widen (k := 201) (n := 60006) (Nat.le_of_ble_eq_true rfl) (Nat.le_of_ble_eq_true rfl) ?_
  obtain rfl : r_9 = 1 := hw_10
  refine lv_istore (lv' := [(6, .int 1), (0, .ref b), (1, .ref ya), (2, .ref xm), (3, .ref ou), (4, .ref od), (5, .int 0)]) hx hb dL_law_357 hl (by decide) rfl (fun ls hl => ?_)
  refine lv_aload_n hx hb dL_law_359 rfl (lv_at hl 3 rfl) ?_
  refine lv_aload_n hx hb dL_law_360 rfl (lv_at hl 1 rfl) ?_
  refine lv_iload hx hb dL_law_361 (lv_at hl 6 rfl) ?_
  refine lv_iconst (v := 1) hx hb dL_law_363 (by decide) ?_
  refine lv_iadd hx hb dL_law_364 ?_
  refine va_sld hx hb hX hbl hbA hS sx1 dL_law_365 ?_
  refine lv_topi (fun x_11 ex_11 => ?_)
  obtain rfl : s1 = x_11 := (ex_11.trans hs1.symm).symm
  refine lv_aload_n hx hb dL_law_366 rfl (lv_at hl 1 rfl) ?_
  refine lv_iload hx hb dL_law_367 (lv_at hl 6 rfl) ?_
  refine lv_iconst (v := 2) hx hb dL_law_369 (by decide) ?_
  refine lv_iadd hx hb dL_law_370 ?_
  refine va_sld hx hb hX hbl hbA hS sx2 dL_law_371 ?_
  refine lv_topi (fun x_12 ex_12 => ?_)
  obtain rfl : s2 = x_12 := (ex_12.trans hs2.symm).symm
  refine lv_aload_n hx hb dL_law_372 rfl (lv_at hl 1 rfl) ?_
  refine lv_iload hx hb dL_law_373 (lv_at hl 6 rfl) ?_
  refine lv_iconst (v := 3) hx hb dL_law_375 (by decide) ?_
  refine lv_iadd hx hb dL_law_376 ?_
  refine va_sld hx hb hX hbl hbA hS sx3 dL_law_377 ?_
  refine lv_topi (fun x_13 ex_13 => ?_)
  obtain rfl : s3 = x_13 := (ex_13.trans hs3.symm).symm
  refine lv_aload_n hx hb dL_law_378 rfl (lv_at hl 1 rfl) ?_
  refine lv_iload hx hb dL_law_379 (lv_at hl 6 rfl) ?_
  refine lv_iconst (v := 4) hx hb dL_law_381 (by decide) ?_
  refine lv_iadd hx hb dL_law_382 ?_
  refine va_sld hx hb hX hbl hbA hS sx4 dL_law_383 ?_
  refine lv_topi (fun x_14 ex_14 => ?_)
  obtain rfl : s4 = x_14 := (ex_14.trans hs4.symm).symm
  refine lv_aload_n hx hb dL_law_384 rfl (lv_at hl 1 rfl) ?_
  refine lv_iload hx hb dL_law_385 (lv_at hl 6 rfl) ?_
  refine lv_iconst (v := 5) hx hb dL_law_387 (by decide) ?_
  refine lv_iadd hx hb dL_law_388 ?_
  refine va_sld hx hb hX hbl hbA hS sx5 dL_law_389 ?_
  refine lv_topi (fun x_15 ex_15 => ?_)
  obtain rfl : s5 = x_15 := (ex_15.trans hs5.symm).symm
  refine lv_i2c hx hb dL_law_390 rfl ?_
  refine lv_topi (fun x_16 ex_16 => ?_)
  obtain rfl : k5 = x_16 := (ex_16.trans hk5.symm).symm
  refine lv_aload_n hx hb dL_law_391 rfl (lv_at hl 1 rfl) ?_
  refine lv_iload hx hb dL_law_392 (lv_at hl 6 rfl) ?_
  refine lv_bipush (v := 6) hx hb dL_law_394 (by decide) ?_
  refine lv_iadd hx hb dL_law_396 ?_
  refine va_sld hx hb hX hbl hbA hS sx6 dL_law_397 ?_
  refine lv_topi (fun x_17 ex_17 => ?_)
  obtain rfl : s6 = x_17 := (ex_17.trans hs6.symm).symm
  have hPc := hP.sub (ws' := [(xm, .inr (20, [.int 0, .int 0, .ref kn, .int 0, .int 0, .int 0, .ref ml, .ref cl, .ref rg, .ref tR, .ref (aK 0), .ref (aK 0), .ref fl, .int 0, .int 0, .int 0, .int 0, .int 0, .int 0, .int 0, .null])), (ml, .inr (4, [.int 0, .ref e0, .int 0]))]) [0, 1] rfl
  have hDc := hD.sub (ws' := [(xm, .inr (20, [.int 0, .int 0, .ref kn, .int 0, .int 0, .int 0, .ref ml, .ref cl, .ref rg, .ref tR, .ref (aK 0), .ref (aK 0), .ref fl, .int 0, .int 0, .int 0, .int 0, .int 0, .int 0, .int 0, .null])), (ml, .inr (4, [.int 0, .ref e0, .int 0]))]) [0, 1] (by decide) rfl
  have hKc := hK.sub (tys' := []) [] rfl
  have hFc := va_free (wc := [(xm, .inr (20, [.int 0, .int 0, .ref kn, .int 0, .int 0, .int 0, .ref ml, .ref cl, .ref rg, .ref tR, .ref (aK 0), .ref (aK 0), .ref fl, .int 0, .int 0, .int 0, .int 0, .int 0, .int 0, .int 0, .null])), (ml, .inr (4, [.int 0, .ref e0, .int 0]))]) hD hS hA [0, 1] rfl
  refine va_calli (va_runV (As := [.int s1, .int s2, .int s3, .int s4, .int k5, .int s6]) (rest := []) ⟨hx, hb, hml, hown, hts⟩ (c_X15_order l dC dI xm ml cl fl kn rg tR e0 aK aV s1 s2 s3 s4 k5 s6 H.size) (cwV 6 hts gL_law_X15_order rfl rfl rfl (by decide +kernel) ⟨Nat.le_of_ble_eq_true rfl, Nat.le_of_ble_eq_true rfl⟩) (pcV hPc hDc hKc hN (ci := 20) (q0 := 0) rfl rfl) rfl rfl hl.1 rfl (lv_room (Nat.le_of_ble_eq_true rfl)) dL_law_398 ⟨Nat.le_of_ble_eq_true rfl, Nat.le_of_ble_eq_true rfl⟩) hS (fun q _ h => hFc q h) hFc (fun r_19 u t H1 locs ht hvm hw_20 hB hz1 hk1 hS => ?_)
  obtain fs_18 := u
  obtain ⟨hP1, hK1, hD1⟩ := hB
  rw [ht] at hP1
  try dsimp only at hw_20
  obtain ⟨hP, hD⟩ := va_join (wr := [(ou, .inl (cL, 1, .inr (.inl of_8)))]) (w1 := [(xm, .inr (20, fs_18))]) hP hD [0, 1] [2] rfl rfl (by decide) (by decide) hk1 hFc hP1 hD1
  generalize H1 = H at hP hS ⊢
  have hP : va_P (dC, dI) vwCl [(ou, .inl (cL, 1, .inr (.inl of_8))), (xm, .inr (20, fs_18))] H := hP
  have hD : va_D A [(ou, .inl (cL, 1, .inr (.inl of_8))), (xm, .inr (20, fs_18))] := hD
  refine lv_istore (lv' := [(7, .int r_19), (6, .int 1), (0, .ref b), (1, .ref ya), (2, .ref xm), (3, .ref ou), (4, .ref od), (5, .int 0)]) hx hb dL_law_401 hl (by decide) rfl (fun ls hl => ?_)
  refine lv_aload_n hx hb dL_law_403 rfl (lv_at hl 4 rfl) ?_
  have hPc := hP.sub (ws' := [(xm, .inr (20, fs_18))]) [1] rfl
  have hDc := hD.sub (ws' := [(xm, .inr (20, fs_18))]) [1] (by decide) rfl
  have hKc := hK.sub (tys' := []) [] rfl
  have hFc := va_free (wc := [(xm, .inr (20, fs_18))]) hD hS hA [1] rfl
  refine va_calli (va_runV (As := []) (rest := []) ⟨hx, hb, hml, hown, hts⟩ (c_X15_thrown l dC dI xm fs_18 1 hw_20 H.size) (cwV 0 hts gL_law_X15_thrown rfl rfl rfl (by decide +kernel) ⟨Nat.le_of_ble_eq_true rfl, Nat.le_of_ble_eq_true rfl⟩) (pcV hPc hDc hKc hN (ci := 20) (q0 := 0) rfl rfl) rfl rfl hl.1 rfl (lv_room (Nat.le_of_ble_eq_true rfl)) dL_law_404 ⟨Nat.le_of_ble_eq_true rfl, Nat.le_of_ble_eq_true rfl⟩) hS (fun q _ h => hFc q h) hFc (fun r_21 u t H1 locs ht hvm hw_22 hB hz1 hk1 hS => ?_)
  obtain ⟨hP1, hK1, hD1⟩ := hB
  rw [ht] at hP1
  try dsimp only at hw_22
  obtain ⟨hP, hD⟩ := va_join (wr := [(ou, .inl (cL, 1, .inr (.inl of_8)))]) (w1 := []) hP hD [1] [0] rfl rfl (by decide) (by decide) hk1 hFc hP1 hD1
  generalize H1 = H at hP hS ⊢
  have hP : va_P (dC, dI) vwCl [(ou, .inl (cL, 1, .inr (.inl of_8)))] H := hP
  have hD : va_D A [(ou, .inl (cL, 1, .inr (.inl of_8)))] := hD
  obtain rfl : r_21 = 1 := hw_22
  refine lv_iload hx hb dL_law_407 (lv_at hl 1 rfl) ?_
  refine lv_icmp_eq (tgt := 414) hx hb dL_law_409 (by decide) (fun c409_23 => ?_) (fun c409_23 => ?_)
  · refine lv_iload hx hb dL_law_414 (lv_at hl 1 rfl) ?_
    refine lv_if_ne (tgt := 431) hx hb dL_law_416 (by decide) (fun c416_24 => ?_) (fun c416_24 => ?_)
    · refine lv_goto (tgt := 2778) hx hb dL_law_431 (by decide) ?_
      refine W.widen (k := 600006) (n := 7302039) (Nat.le_of_ble_eq_true rfl) (Nat.le_of_ble_eq_true rfl) ?_
      exact law_end hx hb hr hml hX hbl hlocks hbA hAo hS (lv_sub hl [2, 7] rfl)
    · exact absurd c416_24 (by decide)
  · exact (c409_23 (by decide)).elim

set_option maxHeartbeats 8000000 in
set_option maxRecDepth 100000 in
/-- the law: law_2_untell -/
theorem law_2_untell {p : Program} {e : Env} {s : State} {m : MethodId} {below : List Frame} {meth : Method} {c : Code} {l : Launch} {b : Nat} {xs : Nat → Int32} (hx : p.tables.exec = Jvm.exec) (hb : c.code = cL_law) (hr : meth.sig.returnType = ret) (hml : c.maxLocals = 9) (hfl : l.stackTraces = false) (hown : s.vm.findClass RL = some m.cls) (hts : ∀ w ∈ wsL_law, w.before #[Value.ref b] s = true) (hX : va_X b 7 xs s s.heap) (hbl : b < s.heap.size) (hlocks : meth.locks = false) {A : Nat → Prop} (hbA : ¬ A b) (hAo : ∀ q, A q → s.heap.size ≤ q) (hA : ∀ q : Nat, s.heap.size ≤ q → A q) (dC : Nat → ClassId) (dI : Nat → Nat → Nat) (hN : nwA s) (e0 : Nat) (aK aV : Nat → Nat) (hZ : zX A s s.heap ∧ zM e0 aK aV A s s.heap) (ya ms ju rj tj ro rn tn rh th ca sa da xa wb z1 z2 jt z3 br z4 z5 z6 lk z7 z8 li bm l2 z9 bo h2 mm l1 z10 oo h1 ct cr cu cg cp co tg ts tr tk te fw fo fu xm ml cl fl rg tR ou od kn : Nat) (cI cM cS cL cD cB : ClassId) {H : Heap} {locs : List Loc} (hP : va_P (dC, dI) vwCl [(ya, .inr (16, [.ref ms, .int 0, .ref ju, .ref li, .ref ct, .ref tg, .ref fw])), (ou, .inl (cL, 1, .inr (.inl (fun _ => 0)))), (xm, .inr (20, [.int 0, .int 0, .ref kn, .int 0, .int 0, .int 0, .ref ml, .ref cl, .ref rg, .ref tR, .ref (aK 0), .ref (aK 0), .ref fl, .int 0, .int 0, .int 0, .int 0, .int 0, .int 0, .int 0, .null])), (ml, .inr (4, [.int 0, .ref e0, .int 0]))] H) (hD : va_D A [(ya, .inr (16, [.ref ms, .int 0, .ref ju, .ref li, .ref ct, .ref tg, .ref fw])), (ou, .inl (cL, 1, .inr (.inl (fun _ => 0)))), (xm, .inr (20, [.int 0, .int 0, .ref kn, .int 0, .int 0, .int 0, .ref ml, .ref cl, .ref rg, .ref tR, .ref (aK 0), .ref (aK 0), .ref fl, .int 0, .int 0, .int 0, .int 0, .int 0, .int 0, .int 0, .null])), (ml, .inr (4, [.int 0, .ref e0, .int 0]))]) (hK : va_K (dC, dI) vwCl [(cL, .long)] s) (hS : va_S A s.heap H locs) {ls : Array Slot} (hl : lv_has ls 9 [(0, .ref b), (1, .ref ya), (2, .ref xm), (3, .ref ou), (4, .ref od), (5, .int 0)]) : W p l e room_1 s m #[Value.ref b] below meth c H locs 200 60000 (lw_Z below #[Value.ref b] s) (F0 m 434 ls []) := by
  obtain ⟨s1, hs1⟩ : ∃ z, z = xs ((0 : Int32) + 1).toNatClampNeg := ⟨_, rfl⟩
  obtain ⟨s2, hs2⟩ : ∃ z, z = xs ((0 : Int32) + 2).toNatClampNeg := ⟨_, rfl⟩
  obtain ⟨s3, hs3⟩ : ∃ z, z = xs ((0 : Int32) + 3).toNatClampNeg := ⟨_, rfl⟩
  obtain ⟨s4, hs4⟩ : ∃ z, z = xs ((0 : Int32) + 4).toNatClampNeg := ⟨_, rfl⟩
  obtain ⟨s5, hs5⟩ : ∃ z, z = xs ((0 : Int32) + 5).toNatClampNeg := ⟨_, rfl⟩
  obtain ⟨s6, hs6⟩ : ∃ z, z = xs ((0 : Int32) + 6).toNatClampNeg := ⟨_, rfl⟩
  obtain ⟨k1, hk1⟩ : ∃ z, z = (s1.toUInt32 % 65536).toInt32 := ⟨_, rfl⟩
  obtain ⟨k2, hk2⟩ : ∃ z, z = (s2.toUInt32 % 65536).toInt32 := ⟨_, rfl⟩
  obtain ⟨k3, hk3⟩ : ∃ z, z = (s3.toUInt32 % 65536).toInt32 := ⟨_, rfl⟩
  obtain ⟨k4, hk4⟩ : ∃ z, z = (s4.toUInt32 % 65536).toInt32 := ⟨_, rfl⟩
  obtain ⟨k5, hk5⟩ : ∃ z, z = (s5.toUInt32 % 65536).toInt32 := ⟨_, rfl⟩
  obtain ⟨k6, hk6⟩ : ∃ z, z = (s6.toUInt32 % 65536).toInt32 := ⟨_, rfl⟩
  refine lv_aload_n hx hb dL_law_434 rfl (lv_at hl 1 rfl) ?_
  refine lv_aload_n hx hb dL_law_435 rfl (lv_at hl 0 rfl) ?_
  refine lv_iload hx hb dL_law_436 (lv_at hl 5 rfl) ?_
  refine lv_iconst (v := 1) hx hb dL_law_438 (by decide) ?_
  refine lv_iadd hx hb dL_law_439 ?_
  refine va_sld hx hb hX hbl hbA hS sx1 dL_law_440 ?_
  refine lv_topi (fun x_1 ex_1 => ?_)
  obtain rfl : s1 = x_1 := (ex_1.trans hs1.symm).symm
  refine lv_aload_n hx hb dL_law_441 rfl (lv_at hl 0 rfl) ?_
  refine lv_iload hx hb dL_law_442 (lv_at hl 5 rfl) ?_
  refine lv_iconst (v := 2) hx hb dL_law_444 (by decide) ?_
  refine lv_iadd hx hb dL_law_445 ?_
  refine va_sld hx hb hX hbl hbA hS sx2 dL_law_446 ?_
  refine lv_topi (fun x_2 ex_2 => ?_)
  obtain rfl : s2 = x_2 := (ex_2.trans hs2.symm).symm
  refine lv_aload_n hx hb dL_law_447 rfl (lv_at hl 0 rfl) ?_
  refine lv_iload hx hb dL_law_448 (lv_at hl 5 rfl) ?_
  refine lv_iconst (v := 3) hx hb dL_law_450 (by decide) ?_
  refine lv_iadd hx hb dL_law_451 ?_
  refine va_sld hx hb hX hbl hbA hS sx3 dL_law_452 ?_
  refine lv_topi (fun x_3 ex_3 => ?_)
  obtain rfl : s3 = x_3 := (ex_3.trans hs3.symm).symm
  refine lv_aload_n hx hb dL_law_453 rfl (lv_at hl 3 rfl) ?_
  have hPc := hP.sub (ws' := [(ya, .inr (16, [.ref ms, .int 0, .ref ju, .ref li, .ref ct, .ref tg, .ref fw])), (ou, .inl (cL, 1, .inr (.inl (fun _ => 0))))]) [0, 1] rfl
  have hDc := hD.sub (ws' := [(ya, .inr (16, [.ref ms, .int 0, .ref ju, .ref li, .ref ct, .ref tg, .ref fw])), (ou, .inl (cL, 1, .inr (.inl (fun _ => 0))))]) [0, 1] (by decide) rfl
  have hKc := hK.sub (tys' := [(cL, .long)]) [0] rfl
  have hFc := va_free (wc := [(ya, .inr (16, [.ref ms, .int 0, .ref ju, .ref li, .ref ct, .ref tg, .ref fw])), (ou, .inl (cL, 1, .inr (.inl (fun _ => 0))))]) hD hS hA [0, 1] rfl
  refine vx_calli (vx_runSX (As := [.ref ya, .int s1, .int s2, .int s3, .ref ou]) (rest := []) ⟨hx, hb, hml, hown, hts⟩ (c_L_untell l hfl dC dI ya ms ju li ct tg fw s1 s2 s3 cL ou (fun _ => 0) H.size) (vx_cwSW 5 hts gL_law_L_untell rfl rfl rfl (by decide +kernel) ⟨Nat.le_of_ble_eq_true rfl, Nat.le_of_ble_eq_true rfl⟩) (pcSz (zX_ok) hPc hDc hKc hN hZ.1 hS hFc) rfl rfl hl.1 rfl (lv_room (Nat.le_of_ble_eq_true rfl)) dL_law_454 ⟨Nat.le_of_ble_eq_true rfl, Nat.le_of_ble_eq_true rfl⟩) hS (fun q _ h => hFc q h) hFc (fun q _ h => hFc q h) (fun E9 ce9 q9 u9 t9 H9 locs9 ht9 hvm9 hp9 hE9 hz9 hk9 hS9 hc9 hv9 hcl9 => hE9.elim) (fun r_5 u t H1 locs ht hvm hw_6 hB hz1 hk1 hS => ?_)
  obtain of_4 := u
  obtain ⟨hP1, hK1, hD1⟩ := hB
  rw [ht] at hP1
  try dsimp only at hw_6
  obtain ⟨hP, hD⟩ := va_join (wr := [(xm, .inr (20, [.int 0, .int 0, .ref kn, .int 0, .int 0, .int 0, .ref ml, .ref cl, .ref rg, .ref tR, .ref (aK 0), .ref (aK 0), .ref fl, .int 0, .int 0, .int 0, .int 0, .int 0, .int 0, .int 0, .null])), (ml, .inr (4, [.int 0, .ref e0, .int 0]))]) (w1 := [(ou, .inl (cL, 1, .inr (.inl of_4)))]) hP hD [0, 1] [2, 3] rfl rfl (by decide) (by decide) hk1 hFc hP1 hD1
  generalize H1 = H at hP hS ⊢
  have hP : va_P (dC, dI) vwCl [(xm, .inr (20, [.int 0, .int 0, .ref kn, .int 0, .int 0, .int 0, .ref ml, .ref cl, .ref rg, .ref tR, .ref (aK 0), .ref (aK 0), .ref fl, .int 0, .int 0, .int 0, .int 0, .int 0, .int 0, .int 0, .null])), (ml, .inr (4, [.int 0, .ref e0, .int 0])), (ou, .inl (cL, 1, .inr (.inl of_4)))] H := hP
  have hD : va_D A [(xm, .inr (20, [.int 0, .int 0, .ref kn, .int 0, .int 0, .int 0, .ref ml, .ref cl, .ref rg, .ref tR, .ref (aK 0), .ref (aK 0), .ref fl, .int 0, .int 0, .int 0, .int 0, .int 0, .int 0, .int 0, .null])), (ml, .inr (4, [.int 0, .ref e0, .int 0])), (ou, .inl (cL, 1, .inr (.inl of_4)))] := hD
  refine W.widen (k := 201) (n := 60006) (Nat.le_of_ble_eq_true rfl) (Nat.le_of_ble_eq_true rfl) ?_
  obtain rfl : r_5 = 1 := hw_6
  refine lv_istore (lv' := [(6, .int 1), (0, .ref b), (1, .ref ya), (2, .ref xm), (3, .ref ou), (4, .ref od), (5, .int 0)]) hx hb dL_law_457 hl (by decide) rfl (fun ls hl => ?_)
  refine lv_aload_n hx hb dL_law_459 rfl (lv_at hl 3 rfl) ?_
  refine lv_aload_n hx hb dL_law_460 rfl (lv_at hl 1 rfl) ?_
  refine lv_iload hx hb dL_law_461 (lv_at hl 6 rfl) ?_
  refine lv_iconst (v := 1) hx hb dL_law_463 (by decide) ?_
  refine lv_iadd hx hb dL_law_464 ?_
  refine va_sld hx hb hX hbl hbA hS sx1 dL_law_465 ?_
  refine lv_topi (fun x_7 ex_7 => ?_)
  obtain rfl : s1 = x_7 := (ex_7.trans hs1.symm).symm
  refine lv_aload_n hx hb dL_law_466 rfl (lv_at hl 1 rfl) ?_
  refine lv_iload hx hb dL_law_467 (lv_at hl 6 rfl) ?_
  refine lv_iconst (v := 2) hx hb dL_law_469 (by decide) ?_
  refine lv_iadd hx hb dL_law_470 ?_
  refine va_sld hx hb hX hbl hbA hS sx2 dL_law_471 ?_
  refine lv_topi (fun x_8 ex_8 => ?_)
  obtain rfl : s2 = x_8 := (ex_8.trans hs2.symm).symm
  refine lv_aload_n hx hb dL_law_472 rfl (lv_at hl 1 rfl) ?_
  refine lv_iload hx hb dL_law_473 (lv_at hl 6 rfl) ?_
  refine lv_iconst (v := 3) hx hb dL_law_475 (by decide) ?_
  refine lv_iadd hx hb dL_law_476 ?_
  refine va_sld hx hb hX hbl hbA hS sx3 dL_law_477 ?_
  refine lv_topi (fun x_9 ex_9 => ?_)
  obtain rfl : s3 = x_9 := (ex_9.trans hs3.symm).symm
  have hPc := hP.sub (ws' := [(xm, .inr (20, [.int 0, .int 0, .ref kn, .int 0, .int 0, .int 0, .ref ml, .ref cl, .ref rg, .ref tR, .ref (aK 0), .ref (aK 0), .ref fl, .int 0, .int 0, .int 0, .int 0, .int 0, .int 0, .int 0, .null])), (ml, .inr (4, [.int 0, .ref e0, .int 0]))]) [0, 1] rfl
  have hDc := hD.sub (ws' := [(xm, .inr (20, [.int 0, .int 0, .ref kn, .int 0, .int 0, .int 0, .ref ml, .ref cl, .ref rg, .ref tR, .ref (aK 0), .ref (aK 0), .ref fl, .int 0, .int 0, .int 0, .int 0, .int 0, .int 0, .int 0, .null])), (ml, .inr (4, [.int 0, .ref e0, .int 0]))]) [0, 1] (by decide) rfl
  have hKc := hK.sub (tys' := []) [] rfl
  have hFc := va_free (wc := [(xm, .inr (20, [.int 0, .int 0, .ref kn, .int 0, .int 0, .int 0, .ref ml, .ref cl, .ref rg, .ref tR, .ref (aK 0), .ref (aK 0), .ref fl, .int 0, .int 0, .int 0, .int 0, .int 0, .int 0, .int 0, .null])), (ml, .inr (4, [.int 0, .ref e0, .int 0]))]) hD hS hA [0, 1] rfl
  refine va_calli (va_runV (As := [.int s1, .int s2, .int s3]) (rest := []) ⟨hx, hb, hml, hown, hts⟩ (c_X15_untell l dC dI xm ml cl fl kn rg tR e0 aK aV s1 s2 s3 H.size) (cwV 3 hts gL_law_X15_untell rfl rfl rfl (by decide +kernel) ⟨Nat.le_of_ble_eq_true rfl, Nat.le_of_ble_eq_true rfl⟩) (pcV hPc hDc hKc hN (ci := 20) (q0 := 0) rfl rfl) rfl rfl hl.1 rfl (lv_room (Nat.le_of_ble_eq_true rfl)) dL_law_478 ⟨Nat.le_of_ble_eq_true rfl, Nat.le_of_ble_eq_true rfl⟩) hS (fun q _ h => hFc q h) hFc (fun r_11 u t H1 locs ht hvm hw_12 hB hz1 hk1 hS => ?_)
  obtain fs_10 := u
  obtain ⟨hP1, hK1, hD1⟩ := hB
  rw [ht] at hP1
  try dsimp only at hw_12
  obtain ⟨hP, hD⟩ := va_join (wr := [(ou, .inl (cL, 1, .inr (.inl of_4)))]) (w1 := [(xm, .inr (20, fs_10))]) hP hD [0, 1] [2] rfl rfl (by decide) (by decide) hk1 hFc hP1 hD1
  generalize H1 = H at hP hS ⊢
  have hP : va_P (dC, dI) vwCl [(ou, .inl (cL, 1, .inr (.inl of_4))), (xm, .inr (20, fs_10))] H := hP
  have hD : va_D A [(ou, .inl (cL, 1, .inr (.inl of_4))), (xm, .inr (20, fs_10))] := hD
  refine lv_istore (lv' := [(7, .int r_11), (6, .int 1), (0, .ref b), (1, .ref ya), (2, .ref xm), (3, .ref ou), (4, .ref od), (5, .int 0)]) hx hb dL_law_481 hl (by decide) rfl (fun ls hl => ?_)
  refine lv_aload_n hx hb dL_law_483 rfl (lv_at hl 4 rfl) ?_
  have hPc := hP.sub (ws' := [(xm, .inr (20, fs_10))]) [1] rfl
  have hDc := hD.sub (ws' := [(xm, .inr (20, fs_10))]) [1] (by decide) rfl
  have hKc := hK.sub (tys' := []) [] rfl
  have hFc := va_free (wc := [(xm, .inr (20, fs_10))]) hD hS hA [1] rfl
  refine va_calli (va_runV (As := []) (rest := []) ⟨hx, hb, hml, hown, hts⟩ (c_X15_thrown l dC dI xm fs_10 1 hw_12 H.size) (cwV 0 hts gL_law_X15_thrown rfl rfl rfl (by decide +kernel) ⟨Nat.le_of_ble_eq_true rfl, Nat.le_of_ble_eq_true rfl⟩) (pcV hPc hDc hKc hN (ci := 20) (q0 := 0) rfl rfl) rfl rfl hl.1 rfl (lv_room (Nat.le_of_ble_eq_true rfl)) dL_law_484 ⟨Nat.le_of_ble_eq_true rfl, Nat.le_of_ble_eq_true rfl⟩) hS (fun q _ h => hFc q h) hFc (fun r_13 u t H1 locs ht hvm hw_14 hB hz1 hk1 hS => ?_)
  obtain ⟨hP1, hK1, hD1⟩ := hB
  rw [ht] at hP1
  try dsimp only at hw_14
  obtain ⟨hP, hD⟩ := va_join (wr := [(ou, .inl (cL, 1, .inr (.inl of_4)))]) (w1 := []) hP hD [1] [0] rfl rfl (by decide) (by decide) hk1 hFc hP1 hD1
  generalize H1 = H at hP hS ⊢
  have hP : va_P (dC, dI) vwCl [(ou, .inl (cL, 1, .inr (.inl of_4)))] H := hP
  have hD : va_D A [(ou, .inl (cL, 1, .inr (.inl of_4)))] := hD
  obtain rfl : r_13 = 1 := hw_14
  refine lv_iload hx hb dL_law_487 (lv_at hl 1 rfl) ?_
  refine lv_icmp_eq (tgt := 494) hx hb dL_law_489 (by decide) (fun c489_15 => ?_) (fun c489_15 => ?_)
  · refine lv_iload hx hb dL_law_494 (lv_at hl 1 rfl) ?_
    refine lv_if_ne (tgt := 511) hx hb dL_law_496 (by decide) (fun c496_16 => ?_) (fun c496_16 => ?_)
    · refine lv_goto (tgt := 2778) hx hb dL_law_511 (by decide) ?_
      refine W.widen (k := 600006) (n := 7302039) (Nat.le_of_ble_eq_true rfl) (Nat.le_of_ble_eq_true rfl) ?_
      exact law_end hx hb hr hml hX hbl hlocks hbA hAo hS (lv_sub hl [2, 7] rfl)
    · exact absurd c496_16 (by decide)
  · exact (c489_15 (by decide)).elim

set_option maxHeartbeats 8000000 in
set_option maxRecDepth 100000 in
/-- the law: law_3_copy -/
theorem law_3_copy {p : Program} {e : Env} {s : State} {m : MethodId} {below : List Frame} {meth : Method} {c : Code} {l : Launch} {b : Nat} {xs : Nat → Int32} (hx : p.tables.exec = Jvm.exec) (hb : c.code = cL_law) (hr : meth.sig.returnType = ret) (hml : c.maxLocals = 9) (hfl : l.stackTraces = false) (hown : s.vm.findClass RL = some m.cls) (hts : ∀ w ∈ wsL_law, w.before #[Value.ref b] s = true) (hX : va_X b 7 xs s s.heap) (hbl : b < s.heap.size) (hlocks : meth.locks = false) {A : Nat → Prop} (hbA : ¬ A b) (hAo : ∀ q, A q → s.heap.size ≤ q) (hA : ∀ q : Nat, s.heap.size ≤ q → A q) (dC : Nat → ClassId) (dI : Nat → Nat → Nat) (hN : nwA s) (e0 : Nat) (aK aV : Nat → Nat) (hZ : zX A s s.heap ∧ zM e0 aK aV A s s.heap) (ya ms ju rj tj ro rn tn rh th ca sa da xa wb z1 z2 jt z3 br z4 z5 z6 lk z7 z8 li bm l2 z9 bo h2 mm l1 z10 oo h1 ct cr cu cg cp co tg ts tr tk te fw fo fu xm ml cl fl rg tR ou od kn : Nat) (cI cM cS cL cD cB : ClassId) {H : Heap} {locs : List Loc} (hP : va_P (dC, dI) vwCl [(ya, .inr (16, [.ref ms, .int 0, .ref ju, .ref li, .ref ct, .ref tg, .ref fw])), (ou, .inl (cL, 1, .inr (.inl (fun _ => 0)))), (xm, .inr (20, [.int 0, .int 0, .ref kn, .int 0, .int 0, .int 0, .ref ml, .ref cl, .ref rg, .ref tR, .ref (aK 0), .ref (aK 0), .ref fl, .int 0, .int 0, .int 0, .int 0, .int 0, .int 0, .int 0, .null])), (ml, .inr (4, [.int 0, .ref e0, .int 0]))] H) (hD : va_D A [(ya, .inr (16, [.ref ms, .int 0, .ref ju, .ref li, .ref ct, .ref tg, .ref fw])), (ou, .inl (cL, 1, .inr (.inl (fun _ => 0)))), (xm, .inr (20, [.int 0, .int 0, .ref kn, .int 0, .int 0, .int 0, .ref ml, .ref cl, .ref rg, .ref tR, .ref (aK 0), .ref (aK 0), .ref fl, .int 0, .int 0, .int 0, .int 0, .int 0, .int 0, .int 0, .null])), (ml, .inr (4, [.int 0, .ref e0, .int 0]))]) (hK : va_K (dC, dI) vwCl [(cL, .long)] s) (hS : va_S A s.heap H locs) {ls : Array Slot} (hl : lv_has ls 9 [(0, .ref b), (1, .ref ya), (2, .ref xm), (3, .ref ou), (4, .ref od), (5, .int 0)]) : W p l e room_1 s m #[Value.ref b] below meth c H locs 200 60000 (lw_Z below #[Value.ref b] s) (F0 m 514 ls []) := by
  obtain ⟨s1, hs1⟩ : ∃ z, z = xs ((0 : Int32) + 1).toNatClampNeg := ⟨_, rfl⟩
  obtain ⟨s2, hs2⟩ : ∃ z, z = xs ((0 : Int32) + 2).toNatClampNeg := ⟨_, rfl⟩
  obtain ⟨s3, hs3⟩ : ∃ z, z = xs ((0 : Int32) + 3).toNatClampNeg := ⟨_, rfl⟩
  obtain ⟨s4, hs4⟩ : ∃ z, z = xs ((0 : Int32) + 4).toNatClampNeg := ⟨_, rfl⟩
  obtain ⟨s5, hs5⟩ : ∃ z, z = xs ((0 : Int32) + 5).toNatClampNeg := ⟨_, rfl⟩
  obtain ⟨s6, hs6⟩ : ∃ z, z = xs ((0 : Int32) + 6).toNatClampNeg := ⟨_, rfl⟩
  obtain ⟨k1, hk1⟩ : ∃ z, z = (s1.toUInt32 % 65536).toInt32 := ⟨_, rfl⟩
  obtain ⟨k2, hk2⟩ : ∃ z, z = (s2.toUInt32 % 65536).toInt32 := ⟨_, rfl⟩
  obtain ⟨k3, hk3⟩ : ∃ z, z = (s3.toUInt32 % 65536).toInt32 := ⟨_, rfl⟩
  obtain ⟨k4, hk4⟩ : ∃ z, z = (s4.toUInt32 % 65536).toInt32 := ⟨_, rfl⟩
  obtain ⟨k5, hk5⟩ : ∃ z, z = (s5.toUInt32 % 65536).toInt32 := ⟨_, rfl⟩
  obtain ⟨k6, hk6⟩ : ∃ z, z = (s6.toUInt32 % 65536).toInt32 := ⟨_, rfl⟩
  refine lv_aload_n hx hb dL_law_514 rfl (lv_at hl 1 rfl) ?_
  refine lv_aload_n hx hb dL_law_515 rfl (lv_at hl 0 rfl) ?_
  refine lv_iload hx hb dL_law_516 (lv_at hl 5 rfl) ?_
  refine lv_iconst (v := 1) hx hb dL_law_518 (by decide) ?_
  refine lv_iadd hx hb dL_law_519 ?_
  refine va_sld hx hb hX hbl hbA hS sx1 dL_law_520 ?_
  refine lv_topi (fun x_1 ex_1 => ?_)
  obtain rfl : s1 = x_1 := (ex_1.trans hs1.symm).symm
  refine lv_aload_n hx hb dL_law_521 rfl (lv_at hl 3 rfl) ?_
  have hPc := hP.sub (ws' := [(ya, .inr (16, [.ref ms, .int 0, .ref ju, .ref li, .ref ct, .ref tg, .ref fw])), (ou, .inl (cL, 1, .inr (.inl (fun _ => 0))))]) [0, 1] rfl
  have hDc := hD.sub (ws' := [(ya, .inr (16, [.ref ms, .int 0, .ref ju, .ref li, .ref ct, .ref tg, .ref fw])), (ou, .inl (cL, 1, .inr (.inl (fun _ => 0))))]) [0, 1] (by decide) rfl
  have hKc := hK.sub (tys' := [(cL, .long)]) [0] rfl
  have hFc := va_free (wc := [(ya, .inr (16, [.ref ms, .int 0, .ref ju, .ref li, .ref ct, .ref tg, .ref fw])), (ou, .inl (cL, 1, .inr (.inl (fun _ => 0))))]) hD hS hA [0, 1] rfl
  refine vx_calli (vx_runSX (As := [.ref ya, .int s1, .ref ou]) (rest := []) ⟨hx, hb, hml, hown, hts⟩ (c_L_copy l hfl dC dI ya ms ju li ct tg fw s1 cL ou (fun _ => 0) H.size) (vx_cwSW 3 hts gL_law_L_copy rfl rfl rfl (by decide +kernel) ⟨Nat.le_of_ble_eq_true rfl, Nat.le_of_ble_eq_true rfl⟩) (pcSz (zX_ok) hPc hDc hKc hN hZ.1 hS hFc) rfl rfl hl.1 rfl (lv_room (Nat.le_of_ble_eq_true rfl)) dL_law_522 ⟨Nat.le_of_ble_eq_true rfl, Nat.le_of_ble_eq_true rfl⟩) hS (fun q _ h => hFc q h) hFc (fun q _ h => hFc q h) (fun E9 ce9 q9 u9 t9 H9 locs9 ht9 hvm9 hp9 hE9 hz9 hk9 hS9 hc9 hv9 hcl9 => hE9.elim) (fun r_3 u t H1 locs ht hvm hw_4 hB hz1 hk1 hS => ?_)
  obtain of_2 := u
  obtain ⟨hP1, hK1, hD1⟩ := hB
  rw [ht] at hP1
  try dsimp only at hw_4
  obtain ⟨hP, hD⟩ := va_join (wr := [(xm, .inr (20, [.int 0, .int 0, .ref kn, .int 0, .int 0, .int 0, .ref ml, .ref cl, .ref rg, .ref tR, .ref (aK 0), .ref (aK 0), .ref fl, .int 0, .int 0, .int 0, .int 0, .int 0, .int 0, .int 0, .null])), (ml, .inr (4, [.int 0, .ref e0, .int 0]))]) (w1 := [(ou, .inl (cL, 1, .inr (.inl of_2)))]) hP hD [0, 1] [2, 3] rfl rfl (by decide) (by decide) hk1 hFc hP1 hD1
  generalize H1 = H at hP hS ⊢
  have hP : va_P (dC, dI) vwCl [(xm, .inr (20, [.int 0, .int 0, .ref kn, .int 0, .int 0, .int 0, .ref ml, .ref cl, .ref rg, .ref tR, .ref (aK 0), .ref (aK 0), .ref fl, .int 0, .int 0, .int 0, .int 0, .int 0, .int 0, .int 0, .null])), (ml, .inr (4, [.int 0, .ref e0, .int 0])), (ou, .inl (cL, 1, .inr (.inl of_2)))] H := hP
  have hD : va_D A [(xm, .inr (20, [.int 0, .int 0, .ref kn, .int 0, .int 0, .int 0, .ref ml, .ref cl, .ref rg, .ref tR, .ref (aK 0), .ref (aK 0), .ref fl, .int 0, .int 0, .int 0, .int 0, .int 0, .int 0, .int 0, .null])), (ml, .inr (4, [.int 0, .ref e0, .int 0])), (ou, .inl (cL, 1, .inr (.inl of_2)))] := hD
  refine W.widen (k := 201) (n := 60006) (Nat.le_of_ble_eq_true rfl) (Nat.le_of_ble_eq_true rfl) ?_
  obtain rfl : r_3 = 1 := hw_4
  refine lv_istore (lv' := [(6, .int 1), (0, .ref b), (1, .ref ya), (2, .ref xm), (3, .ref ou), (4, .ref od), (5, .int 0)]) hx hb dL_law_525 hl (by decide) rfl (fun ls hl => ?_)
  refine lv_aload_n hx hb dL_law_527 rfl (lv_at hl 3 rfl) ?_
  refine lv_aload_n hx hb dL_law_528 rfl (lv_at hl 1 rfl) ?_
  refine lv_iload hx hb dL_law_529 (lv_at hl 6 rfl) ?_
  refine lv_iconst (v := 1) hx hb dL_law_531 (by decide) ?_
  refine lv_iadd hx hb dL_law_532 ?_
  refine va_sld hx hb hX hbl hbA hS sx1 dL_law_533 ?_
  refine lv_topi (fun x_5 ex_5 => ?_)
  obtain rfl : s1 = x_5 := (ex_5.trans hs1.symm).symm
  have hPc := hP.sub (ws' := [(xm, .inr (20, [.int 0, .int 0, .ref kn, .int 0, .int 0, .int 0, .ref ml, .ref cl, .ref rg, .ref tR, .ref (aK 0), .ref (aK 0), .ref fl, .int 0, .int 0, .int 0, .int 0, .int 0, .int 0, .int 0, .null])), (ml, .inr (4, [.int 0, .ref e0, .int 0]))]) [0, 1] rfl
  have hDc := hD.sub (ws' := [(xm, .inr (20, [.int 0, .int 0, .ref kn, .int 0, .int 0, .int 0, .ref ml, .ref cl, .ref rg, .ref tR, .ref (aK 0), .ref (aK 0), .ref fl, .int 0, .int 0, .int 0, .int 0, .int 0, .int 0, .int 0, .null])), (ml, .inr (4, [.int 0, .ref e0, .int 0]))]) [0, 1] (by decide) rfl
  have hKc := hK.sub (tys' := []) [] rfl
  have hFc := va_free (wc := [(xm, .inr (20, [.int 0, .int 0, .ref kn, .int 0, .int 0, .int 0, .ref ml, .ref cl, .ref rg, .ref tR, .ref (aK 0), .ref (aK 0), .ref fl, .int 0, .int 0, .int 0, .int 0, .int 0, .int 0, .int 0, .null])), (ml, .inr (4, [.int 0, .ref e0, .int 0]))]) hD hS hA [0, 1] rfl
  refine va_calli (va_runV (As := [.int s1]) (rest := []) ⟨hx, hb, hml, hown, hts⟩ (c_X15_copy l dC dI xm ml cl fl kn rg tR e0 aK aV s1 H.size) (cwV 1 hts gL_law_X15_copy rfl rfl rfl (by decide +kernel) ⟨Nat.le_of_ble_eq_true rfl, Nat.le_of_ble_eq_true rfl⟩) (pcV hPc hDc hKc hN (ci := 20) (q0 := 0) rfl rfl) rfl rfl hl.1 rfl (lv_room (Nat.le_of_ble_eq_true rfl)) dL_law_534 ⟨Nat.le_of_ble_eq_true rfl, Nat.le_of_ble_eq_true rfl⟩) hS (fun q _ h => hFc q h) hFc (fun r_7 u t H1 locs ht hvm hw_8 hB hz1 hk1 hS => ?_)
  obtain fs_6 := u
  obtain ⟨hP1, hK1, hD1⟩ := hB
  rw [ht] at hP1
  try dsimp only at hw_8
  obtain ⟨hP, hD⟩ := va_join (wr := [(ou, .inl (cL, 1, .inr (.inl of_2)))]) (w1 := [(xm, .inr (20, fs_6))]) hP hD [0, 1] [2] rfl rfl (by decide) (by decide) hk1 hFc hP1 hD1
  generalize H1 = H at hP hS ⊢
  have hP : va_P (dC, dI) vwCl [(ou, .inl (cL, 1, .inr (.inl of_2))), (xm, .inr (20, fs_6))] H := hP
  have hD : va_D A [(ou, .inl (cL, 1, .inr (.inl of_2))), (xm, .inr (20, fs_6))] := hD
  refine lv_istore (lv' := [(7, .int r_7), (6, .int 1), (0, .ref b), (1, .ref ya), (2, .ref xm), (3, .ref ou), (4, .ref od), (5, .int 0)]) hx hb dL_law_537 hl (by decide) rfl (fun ls hl => ?_)
  refine lv_aload_n hx hb dL_law_539 rfl (lv_at hl 4 rfl) ?_
  have hPc := hP.sub (ws' := [(xm, .inr (20, fs_6))]) [1] rfl
  have hDc := hD.sub (ws' := [(xm, .inr (20, fs_6))]) [1] (by decide) rfl
  have hKc := hK.sub (tys' := []) [] rfl
  have hFc := va_free (wc := [(xm, .inr (20, fs_6))]) hD hS hA [1] rfl
  refine va_calli (va_runV (As := []) (rest := []) ⟨hx, hb, hml, hown, hts⟩ (c_X15_thrown l dC dI xm fs_6 1 hw_8 H.size) (cwV 0 hts gL_law_X15_thrown rfl rfl rfl (by decide +kernel) ⟨Nat.le_of_ble_eq_true rfl, Nat.le_of_ble_eq_true rfl⟩) (pcV hPc hDc hKc hN (ci := 20) (q0 := 0) rfl rfl) rfl rfl hl.1 rfl (lv_room (Nat.le_of_ble_eq_true rfl)) dL_law_540 ⟨Nat.le_of_ble_eq_true rfl, Nat.le_of_ble_eq_true rfl⟩) hS (fun q _ h => hFc q h) hFc (fun r_9 u t H1 locs ht hvm hw_10 hB hz1 hk1 hS => ?_)
  obtain ⟨hP1, hK1, hD1⟩ := hB
  rw [ht] at hP1
  try dsimp only at hw_10
  obtain ⟨hP, hD⟩ := va_join (wr := [(ou, .inl (cL, 1, .inr (.inl of_2)))]) (w1 := []) hP hD [1] [0] rfl rfl (by decide) (by decide) hk1 hFc hP1 hD1
  generalize H1 = H at hP hS ⊢
  have hP : va_P (dC, dI) vwCl [(ou, .inl (cL, 1, .inr (.inl of_2)))] H := hP
  have hD : va_D A [(ou, .inl (cL, 1, .inr (.inl of_2)))] := hD
  obtain rfl : r_9 = 1 := hw_10
  refine lv_iload hx hb dL_law_543 (lv_at hl 1 rfl) ?_
  refine lv_icmp_eq (tgt := 550) hx hb dL_law_545 (by decide) (fun c545_11 => ?_) (fun c545_11 => ?_)
  · refine lv_iload hx hb dL_law_550 (lv_at hl 1 rfl) ?_
    refine lv_if_ne (tgt := 567) hx hb dL_law_552 (by decide) (fun c552_12 => ?_) (fun c552_12 => ?_)
    · refine lv_goto (tgt := 2778) hx hb dL_law_567 (by decide) ?_
      refine W.widen (k := 600006) (n := 7302039) (Nat.le_of_ble_eq_true rfl) (Nat.le_of_ble_eq_true rfl) ?_
      exact law_end hx hb hr hml hX hbl hlocks hbA hAo hS (lv_sub hl [2, 7] rfl)
    · exact absurd c552_12 (by decide)
  · exact (c545_11 (by decide)).elim

set_option maxHeartbeats 8000000 in
set_option maxRecDepth 100000 in
/-- the law: law_4_run -/
theorem law_4_run {p : Program} {e : Env} {s : State} {m : MethodId} {below : List Frame} {meth : Method} {c : Code} {l : Launch} {b : Nat} {xs : Nat → Int32} (hx : p.tables.exec = Jvm.exec) (hb : c.code = cL_law) (hr : meth.sig.returnType = ret) (hml : c.maxLocals = 9) (hfl : l.stackTraces = false) (hown : s.vm.findClass RL = some m.cls) (hts : ∀ w ∈ wsL_law, w.before #[Value.ref b] s = true) (hX : va_X b 7 xs s s.heap) (hbl : b < s.heap.size) (hlocks : meth.locks = false) {A : Nat → Prop} (hbA : ¬ A b) (hAo : ∀ q, A q → s.heap.size ≤ q) (hA : ∀ q : Nat, s.heap.size ≤ q → A q) (dC : Nat → ClassId) (dI : Nat → Nat → Nat) (hN : nwA s) (e0 : Nat) (aK aV : Nat → Nat) (hZ : zX A s s.heap ∧ zM e0 aK aV A s s.heap) (ya ms ju rj tj ro rn tn rh th ca sa da xa wb z1 z2 jt z3 br z4 z5 z6 lk z7 z8 li bm l2 z9 bo h2 mm l1 z10 oo h1 ct cr cu cg cp co tg ts tr tk te fw fo fu xm ml cl fl rg tR ou od kn : Nat) (cI cM cS cL cD cB : ClassId) {H : Heap} {locs : List Loc} (hP : va_P (dC, dI) vwCl [(ya, .inr (16, [.ref ms, .int 0, .ref ju, .ref li, .ref ct, .ref tg, .ref fw])), (ou, .inl (cL, 1, .inr (.inl (fun _ => 0)))), (xm, .inr (20, [.int 0, .int 0, .ref kn, .int 0, .int 0, .int 0, .ref ml, .ref cl, .ref rg, .ref tR, .ref (aK 0), .ref (aK 0), .ref fl, .int 0, .int 0, .int 0, .int 0, .int 0, .int 0, .int 0, .null])), (ml, .inr (4, [.int 0, .ref e0, .int 0]))] H) (hD : va_D A [(ya, .inr (16, [.ref ms, .int 0, .ref ju, .ref li, .ref ct, .ref tg, .ref fw])), (ou, .inl (cL, 1, .inr (.inl (fun _ => 0)))), (xm, .inr (20, [.int 0, .int 0, .ref kn, .int 0, .int 0, .int 0, .ref ml, .ref cl, .ref rg, .ref tR, .ref (aK 0), .ref (aK 0), .ref fl, .int 0, .int 0, .int 0, .int 0, .int 0, .int 0, .int 0, .null])), (ml, .inr (4, [.int 0, .ref e0, .int 0]))]) (hK : va_K (dC, dI) vwCl [(cL, .long)] s) (hS : va_S A s.heap H locs) {ls : Array Slot} (hl : lv_has ls 9 [(0, .ref b), (1, .ref ya), (2, .ref xm), (3, .ref ou), (4, .ref od), (5, .int 0)]) : W p l e room_1 s m #[Value.ref b] below meth c H locs 200 60000 (lw_Z below #[Value.ref b] s) (F0 m 570 ls []) := by
  obtain ⟨s1, hs1⟩ : ∃ z, z = xs ((0 : Int32) + 1).toNatClampNeg := ⟨_, rfl⟩
  obtain ⟨s2, hs2⟩ : ∃ z, z = xs ((0 : Int32) + 2).toNatClampNeg := ⟨_, rfl⟩
  obtain ⟨s3, hs3⟩ : ∃ z, z = xs ((0 : Int32) + 3).toNatClampNeg := ⟨_, rfl⟩
  obtain ⟨s4, hs4⟩ : ∃ z, z = xs ((0 : Int32) + 4).toNatClampNeg := ⟨_, rfl⟩
  obtain ⟨s5, hs5⟩ : ∃ z, z = xs ((0 : Int32) + 5).toNatClampNeg := ⟨_, rfl⟩
  obtain ⟨s6, hs6⟩ : ∃ z, z = xs ((0 : Int32) + 6).toNatClampNeg := ⟨_, rfl⟩
  obtain ⟨k1, hk1⟩ : ∃ z, z = (s1.toUInt32 % 65536).toInt32 := ⟨_, rfl⟩
  obtain ⟨k2, hk2⟩ : ∃ z, z = (s2.toUInt32 % 65536).toInt32 := ⟨_, rfl⟩
  obtain ⟨k3, hk3⟩ : ∃ z, z = (s3.toUInt32 % 65536).toInt32 := ⟨_, rfl⟩
  obtain ⟨k4, hk4⟩ : ∃ z, z = (s4.toUInt32 % 65536).toInt32 := ⟨_, rfl⟩
  obtain ⟨k5, hk5⟩ : ∃ z, z = (s5.toUInt32 % 65536).toInt32 := ⟨_, rfl⟩
  obtain ⟨k6, hk6⟩ : ∃ z, z = (s6.toUInt32 % 65536).toInt32 := ⟨_, rfl⟩
  refine lv_aload_n hx hb dL_law_570 rfl (lv_at hl 1 rfl) ?_
  refine lv_aload_n hx hb dL_law_571 rfl (lv_at hl 0 rfl) ?_
  refine lv_iload hx hb dL_law_572 (lv_at hl 5 rfl) ?_
  refine lv_iconst (v := 1) hx hb dL_law_574 (by decide) ?_
  refine lv_iadd hx hb dL_law_575 ?_
  refine va_sld hx hb hX hbl hbA hS sx1 dL_law_576 ?_
  refine lv_topi (fun x_1 ex_1 => ?_)
  obtain rfl : s1 = x_1 := (ex_1.trans hs1.symm).symm
  refine lv_aload_n hx hb dL_law_577 rfl (lv_at hl 0 rfl) ?_
  refine lv_iload hx hb dL_law_578 (lv_at hl 5 rfl) ?_
  refine lv_iconst (v := 2) hx hb dL_law_580 (by decide) ?_
  refine lv_iadd hx hb dL_law_581 ?_
  refine va_sld hx hb hX hbl hbA hS sx2 dL_law_582 ?_
  refine lv_topi (fun x_2 ex_2 => ?_)
  obtain rfl : s2 = x_2 := (ex_2.trans hs2.symm).symm
  refine lv_aload_n hx hb dL_law_583 rfl (lv_at hl 3 rfl) ?_
  have hPc := hP.sub (ws' := [(ya, .inr (16, [.ref ms, .int 0, .ref ju, .ref li, .ref ct, .ref tg, .ref fw])), (ou, .inl (cL, 1, .inr (.inl (fun _ => 0))))]) [0, 1] rfl
  have hDc := hD.sub (ws' := [(ya, .inr (16, [.ref ms, .int 0, .ref ju, .ref li, .ref ct, .ref tg, .ref fw])), (ou, .inl (cL, 1, .inr (.inl (fun _ => 0))))]) [0, 1] (by decide) rfl
  have hKc := hK.sub (tys' := [(cL, .long)]) [0] rfl
  have hFc := va_free (wc := [(ya, .inr (16, [.ref ms, .int 0, .ref ju, .ref li, .ref ct, .ref tg, .ref fw])), (ou, .inl (cL, 1, .inr (.inl (fun _ => 0))))]) hD hS hA [0, 1] rfl
  refine vx_calli (vx_runSX (As := [.ref ya, .int s1, .int s2, .ref ou]) (rest := []) ⟨hx, hb, hml, hown, hts⟩ (c_L_run l hfl dC dI ya ms ju li ct tg fw s1 s2 cL ou (fun _ => 0) H.size) (vx_cwSW 4 hts gL_law_L_run rfl rfl rfl (by decide +kernel) ⟨Nat.le_of_ble_eq_true rfl, Nat.le_of_ble_eq_true rfl⟩) (pcSz (zX_ok) hPc hDc hKc hN hZ.1 hS hFc) rfl rfl hl.1 rfl (lv_room (Nat.le_of_ble_eq_true rfl)) dL_law_584 ⟨Nat.le_of_ble_eq_true rfl, Nat.le_of_ble_eq_true rfl⟩) hS (fun q _ h => hFc q h) hFc (fun q _ h => hFc q h) (fun E9 ce9 q9 u9 t9 H9 locs9 ht9 hvm9 hp9 hE9 hz9 hk9 hS9 hc9 hv9 hcl9 => hE9.elim) (fun r_4 u t H1 locs ht hvm hw_5 hB hz1 hk1 hS => ?_)
  obtain of_3 := u
  obtain ⟨hP1, hK1, hD1⟩ := hB
  rw [ht] at hP1
  try dsimp only at hw_5
  obtain ⟨hP, hD⟩ := va_join (wr := [(xm, .inr (20, [.int 0, .int 0, .ref kn, .int 0, .int 0, .int 0, .ref ml, .ref cl, .ref rg, .ref tR, .ref (aK 0), .ref (aK 0), .ref fl, .int 0, .int 0, .int 0, .int 0, .int 0, .int 0, .int 0, .null])), (ml, .inr (4, [.int 0, .ref e0, .int 0]))]) (w1 := [(ou, .inl (cL, 1, .inr (.inl of_3)))]) hP hD [0, 1] [2, 3] rfl rfl (by decide) (by decide) hk1 hFc hP1 hD1
  generalize H1 = H at hP hS ⊢
  have hP : va_P (dC, dI) vwCl [(xm, .inr (20, [.int 0, .int 0, .ref kn, .int 0, .int 0, .int 0, .ref ml, .ref cl, .ref rg, .ref tR, .ref (aK 0), .ref (aK 0), .ref fl, .int 0, .int 0, .int 0, .int 0, .int 0, .int 0, .int 0, .null])), (ml, .inr (4, [.int 0, .ref e0, .int 0])), (ou, .inl (cL, 1, .inr (.inl of_3)))] H := hP
  have hD : va_D A [(xm, .inr (20, [.int 0, .int 0, .ref kn, .int 0, .int 0, .int 0, .ref ml, .ref cl, .ref rg, .ref tR, .ref (aK 0), .ref (aK 0), .ref fl, .int 0, .int 0, .int 0, .int 0, .int 0, .int 0, .int 0, .null])), (ml, .inr (4, [.int 0, .ref e0, .int 0])), (ou, .inl (cL, 1, .inr (.inl of_3)))] := hD
  refine W.widen (k := 201) (n := 60006) (Nat.le_of_ble_eq_true rfl) (Nat.le_of_ble_eq_true rfl) ?_
  obtain rfl : r_4 = 1 := hw_5
  refine lv_istore (lv' := [(6, .int 1), (0, .ref b), (1, .ref ya), (2, .ref xm), (3, .ref ou), (4, .ref od), (5, .int 0)]) hx hb dL_law_587 hl (by decide) rfl (fun ls hl => ?_)
  refine lv_aload_n hx hb dL_law_589 rfl (lv_at hl 3 rfl) ?_
  refine lv_aload_n hx hb dL_law_590 rfl (lv_at hl 1 rfl) ?_
  refine lv_iload hx hb dL_law_591 (lv_at hl 6 rfl) ?_
  refine lv_iconst (v := 1) hx hb dL_law_593 (by decide) ?_
  refine lv_iadd hx hb dL_law_594 ?_
  refine va_sld hx hb hX hbl hbA hS sx1 dL_law_595 ?_
  refine lv_topi (fun x_6 ex_6 => ?_)
  obtain rfl : s1 = x_6 := (ex_6.trans hs1.symm).symm
  refine lv_aload_n hx hb dL_law_596 rfl (lv_at hl 1 rfl) ?_
  refine lv_iload hx hb dL_law_597 (lv_at hl 6 rfl) ?_
  refine lv_iconst (v := 2) hx hb dL_law_599 (by decide) ?_
  refine lv_iadd hx hb dL_law_600 ?_
  refine va_sld hx hb hX hbl hbA hS sx2 dL_law_601 ?_
  refine lv_topi (fun x_7 ex_7 => ?_)
  obtain rfl : s2 = x_7 := (ex_7.trans hs2.symm).symm
  have hPc := hP.sub (ws' := [(xm, .inr (20, [.int 0, .int 0, .ref kn, .int 0, .int 0, .int 0, .ref ml, .ref cl, .ref rg, .ref tR, .ref (aK 0), .ref (aK 0), .ref fl, .int 0, .int 0, .int 0, .int 0, .int 0, .int 0, .int 0, .null])), (ml, .inr (4, [.int 0, .ref e0, .int 0]))]) [0, 1] rfl
  have hDc := hD.sub (ws' := [(xm, .inr (20, [.int 0, .int 0, .ref kn, .int 0, .int 0, .int 0, .ref ml, .ref cl, .ref rg, .ref tR, .ref (aK 0), .ref (aK 0), .ref fl, .int 0, .int 0, .int 0, .int 0, .int 0, .int 0, .int 0, .null])), (ml, .inr (4, [.int 0, .ref e0, .int 0]))]) [0, 1] (by decide) rfl
  have hKc := hK.sub (tys' := []) [] rfl
  have hFc := va_free (wc := [(xm, .inr (20, [.int 0, .int 0, .ref kn, .int 0, .int 0, .int 0, .ref ml, .ref cl, .ref rg, .ref tR, .ref (aK 0), .ref (aK 0), .ref fl, .int 0, .int 0, .int 0, .int 0, .int 0, .int 0, .int 0, .null])), (ml, .inr (4, [.int 0, .ref e0, .int 0]))]) hD hS hA [0, 1] rfl
  refine va_calli (va_runV (As := [.int s1, .int s2]) (rest := []) ⟨hx, hb, hml, hown, hts⟩ (c_X15_run l dC dI xm ml cl fl kn rg tR e0 aK aV s1 s2 H.size) (cwV 2 hts gL_law_X15_run rfl rfl rfl (by decide +kernel) ⟨Nat.le_of_ble_eq_true rfl, Nat.le_of_ble_eq_true rfl⟩) (pcV hPc hDc hKc hN (ci := 20) (q0 := 0) rfl rfl) rfl rfl hl.1 rfl (lv_room (Nat.le_of_ble_eq_true rfl)) dL_law_602 ⟨Nat.le_of_ble_eq_true rfl, Nat.le_of_ble_eq_true rfl⟩) hS (fun q _ h => hFc q h) hFc (fun r_9 u t H1 locs ht hvm hw_10 hB hz1 hk1 hS => ?_)
  obtain fs_8 := u
  obtain ⟨hP1, hK1, hD1⟩ := hB
  rw [ht] at hP1
  try dsimp only at hw_10
  obtain ⟨hP, hD⟩ := va_join (wr := [(ou, .inl (cL, 1, .inr (.inl of_3)))]) (w1 := [(xm, .inr (20, fs_8))]) hP hD [0, 1] [2] rfl rfl (by decide) (by decide) hk1 hFc hP1 hD1
  generalize H1 = H at hP hS ⊢
  have hP : va_P (dC, dI) vwCl [(ou, .inl (cL, 1, .inr (.inl of_3))), (xm, .inr (20, fs_8))] H := hP
  have hD : va_D A [(ou, .inl (cL, 1, .inr (.inl of_3))), (xm, .inr (20, fs_8))] := hD
  refine lv_istore (lv' := [(7, .int r_9), (6, .int 1), (0, .ref b), (1, .ref ya), (2, .ref xm), (3, .ref ou), (4, .ref od), (5, .int 0)]) hx hb dL_law_605 hl (by decide) rfl (fun ls hl => ?_)
  refine lv_aload_n hx hb dL_law_607 rfl (lv_at hl 4 rfl) ?_
  have hPc := hP.sub (ws' := [(xm, .inr (20, fs_8))]) [1] rfl
  have hDc := hD.sub (ws' := [(xm, .inr (20, fs_8))]) [1] (by decide) rfl
  have hKc := hK.sub (tys' := []) [] rfl
  have hFc := va_free (wc := [(xm, .inr (20, fs_8))]) hD hS hA [1] rfl
  refine va_calli (va_runV (As := []) (rest := []) ⟨hx, hb, hml, hown, hts⟩ (c_X15_thrown l dC dI xm fs_8 1 hw_10 H.size) (cwV 0 hts gL_law_X15_thrown rfl rfl rfl (by decide +kernel) ⟨Nat.le_of_ble_eq_true rfl, Nat.le_of_ble_eq_true rfl⟩) (pcV hPc hDc hKc hN (ci := 20) (q0 := 0) rfl rfl) rfl rfl hl.1 rfl (lv_room (Nat.le_of_ble_eq_true rfl)) dL_law_608 ⟨Nat.le_of_ble_eq_true rfl, Nat.le_of_ble_eq_true rfl⟩) hS (fun q _ h => hFc q h) hFc (fun r_11 u t H1 locs ht hvm hw_12 hB hz1 hk1 hS => ?_)
  obtain ⟨hP1, hK1, hD1⟩ := hB
  rw [ht] at hP1
  try dsimp only at hw_12
  obtain ⟨hP, hD⟩ := va_join (wr := [(ou, .inl (cL, 1, .inr (.inl of_3)))]) (w1 := []) hP hD [1] [0] rfl rfl (by decide) (by decide) hk1 hFc hP1 hD1
  generalize H1 = H at hP hS ⊢
  have hP : va_P (dC, dI) vwCl [(ou, .inl (cL, 1, .inr (.inl of_3)))] H := hP
  have hD : va_D A [(ou, .inl (cL, 1, .inr (.inl of_3)))] := hD
  obtain rfl : r_11 = 1 := hw_12
  refine lv_iload hx hb dL_law_611 (lv_at hl 1 rfl) ?_
  refine lv_icmp_eq (tgt := 618) hx hb dL_law_613 (by decide) (fun c613_13 => ?_) (fun c613_13 => ?_)
  · refine lv_iload hx hb dL_law_618 (lv_at hl 1 rfl) ?_
    refine lv_if_ne (tgt := 635) hx hb dL_law_620 (by decide) (fun c620_14 => ?_) (fun c620_14 => ?_)
    · refine lv_goto (tgt := 2778) hx hb dL_law_635 (by decide) ?_
      refine W.widen (k := 600006) (n := 7302039) (Nat.le_of_ble_eq_true rfl) (Nat.le_of_ble_eq_true rfl) ?_
      exact law_end hx hb hr hml hX hbl hlocks hbA hAo hS (lv_sub hl [2, 7] rfl)
    · exact absurd c620_14 (by decide)
  · exact (c613_13 (by decide)).elim

set_option maxHeartbeats 8000000 in
set_option maxRecDepth 100000 in
/-- the law: law_5_hasHalted -/
theorem law_5_hasHalted {p : Program} {e : Env} {s : State} {m : MethodId} {below : List Frame} {meth : Method} {c : Code} {l : Launch} {b : Nat} {xs : Nat → Int32} (hx : p.tables.exec = Jvm.exec) (hb : c.code = cL_law) (hr : meth.sig.returnType = ret) (hml : c.maxLocals = 9) (hfl : l.stackTraces = false) (hown : s.vm.findClass RL = some m.cls) (hts : ∀ w ∈ wsL_law, w.before #[Value.ref b] s = true) (hX : va_X b 7 xs s s.heap) (hbl : b < s.heap.size) (hlocks : meth.locks = false) {A : Nat → Prop} (hbA : ¬ A b) (hAo : ∀ q, A q → s.heap.size ≤ q) (hA : ∀ q : Nat, s.heap.size ≤ q → A q) (dC : Nat → ClassId) (dI : Nat → Nat → Nat) (hN : nwA s) (e0 : Nat) (aK aV : Nat → Nat) (hZ : zX A s s.heap ∧ zM e0 aK aV A s s.heap) (ya ms ju rj tj ro rn tn rh th ca sa da xa wb z1 z2 jt z3 br z4 z5 z6 lk z7 z8 li bm l2 z9 bo h2 mm l1 z10 oo h1 ct cr cu cg cp co tg ts tr tk te fw fo fu xm ml cl fl rg tR ou od kn : Nat) (cI cM cS cL cD cB : ClassId) {H : Heap} {locs : List Loc} (hP : va_P (dC, dI) vwCl [(ya, .inr (16, [.ref ms, .int 0, .ref ju, .ref li, .ref ct, .ref tg, .ref fw])), (ou, .inl (cL, 1, .inr (.inl (fun _ => 0)))), (xm, .inr (20, [.int 0, .int 0, .ref kn, .int 0, .int 0, .int 0, .ref ml, .ref cl, .ref rg, .ref tR, .ref (aK 0), .ref (aK 0), .ref fl, .int 0, .int 0, .int 0, .int 0, .int 0, .int 0, .int 0, .null])), (ml, .inr (4, [.int 0, .ref e0, .int 0]))] H) (hD : va_D A [(ya, .inr (16, [.ref ms, .int 0, .ref ju, .ref li, .ref ct, .ref tg, .ref fw])), (ou, .inl (cL, 1, .inr (.inl (fun _ => 0)))), (xm, .inr (20, [.int 0, .int 0, .ref kn, .int 0, .int 0, .int 0, .ref ml, .ref cl, .ref rg, .ref tR, .ref (aK 0), .ref (aK 0), .ref fl, .int 0, .int 0, .int 0, .int 0, .int 0, .int 0, .int 0, .null])), (ml, .inr (4, [.int 0, .ref e0, .int 0]))]) (hK : va_K (dC, dI) vwCl [(cL, .long)] s) (hS : va_S A s.heap H locs) {ls : Array Slot} (hl : lv_has ls 9 [(0, .ref b), (1, .ref ya), (2, .ref xm), (3, .ref ou), (4, .ref od), (5, .int 0)]) : W p l e room_1 s m #[Value.ref b] below meth c H locs 200 60000 (lw_Z below #[Value.ref b] s) (F0 m 638 ls []) := by
  obtain ⟨s1, hs1⟩ : ∃ z, z = xs ((0 : Int32) + 1).toNatClampNeg := ⟨_, rfl⟩
  obtain ⟨s2, hs2⟩ : ∃ z, z = xs ((0 : Int32) + 2).toNatClampNeg := ⟨_, rfl⟩
  obtain ⟨s3, hs3⟩ : ∃ z, z = xs ((0 : Int32) + 3).toNatClampNeg := ⟨_, rfl⟩
  obtain ⟨s4, hs4⟩ : ∃ z, z = xs ((0 : Int32) + 4).toNatClampNeg := ⟨_, rfl⟩
  obtain ⟨s5, hs5⟩ : ∃ z, z = xs ((0 : Int32) + 5).toNatClampNeg := ⟨_, rfl⟩
  obtain ⟨s6, hs6⟩ : ∃ z, z = xs ((0 : Int32) + 6).toNatClampNeg := ⟨_, rfl⟩
  obtain ⟨k1, hk1⟩ : ∃ z, z = (s1.toUInt32 % 65536).toInt32 := ⟨_, rfl⟩
  obtain ⟨k2, hk2⟩ : ∃ z, z = (s2.toUInt32 % 65536).toInt32 := ⟨_, rfl⟩
  obtain ⟨k3, hk3⟩ : ∃ z, z = (s3.toUInt32 % 65536).toInt32 := ⟨_, rfl⟩
  obtain ⟨k4, hk4⟩ : ∃ z, z = (s4.toUInt32 % 65536).toInt32 := ⟨_, rfl⟩
  obtain ⟨k5, hk5⟩ : ∃ z, z = (s5.toUInt32 % 65536).toInt32 := ⟨_, rfl⟩
  obtain ⟨k6, hk6⟩ : ∃ z, z = (s6.toUInt32 % 65536).toInt32 := ⟨_, rfl⟩
  refine lv_aload_n hx hb dL_law_638 rfl (lv_at hl 1 rfl) ?_
  refine lv_aload_n hx hb dL_law_639 rfl (lv_at hl 0 rfl) ?_
  refine lv_iload hx hb dL_law_640 (lv_at hl 5 rfl) ?_
  refine lv_iconst (v := 1) hx hb dL_law_642 (by decide) ?_
  refine lv_iadd hx hb dL_law_643 ?_
  refine va_sld hx hb hX hbl hbA hS sx1 dL_law_644 ?_
  refine lv_topi (fun x_1 ex_1 => ?_)
  obtain rfl : s1 = x_1 := (ex_1.trans hs1.symm).symm
  refine lv_aload_n hx hb dL_law_645 rfl (lv_at hl 3 rfl) ?_
  have hPc := hP.sub (ws' := [(ya, .inr (16, [.ref ms, .int 0, .ref ju, .ref li, .ref ct, .ref tg, .ref fw])), (ou, .inl (cL, 1, .inr (.inl (fun _ => 0))))]) [0, 1] rfl
  have hDc := hD.sub (ws' := [(ya, .inr (16, [.ref ms, .int 0, .ref ju, .ref li, .ref ct, .ref tg, .ref fw])), (ou, .inl (cL, 1, .inr (.inl (fun _ => 0))))]) [0, 1] (by decide) rfl
  have hKc := hK.sub (tys' := [(cL, .long)]) [0] rfl
  have hFc := va_free (wc := [(ya, .inr (16, [.ref ms, .int 0, .ref ju, .ref li, .ref ct, .ref tg, .ref fw])), (ou, .inl (cL, 1, .inr (.inl (fun _ => 0))))]) hD hS hA [0, 1] rfl
  refine vx_calli (vx_runSX (As := [.ref ya, .int s1, .ref ou]) (rest := []) ⟨hx, hb, hml, hown, hts⟩ (c_L_hasHalted l hfl dC dI ya ms ju li ct tg fw s1 cL ou (fun _ => 0) H.size) (vx_cwSW 3 hts gL_law_L_hasHalted rfl rfl rfl (by decide +kernel) ⟨Nat.le_of_ble_eq_true rfl, Nat.le_of_ble_eq_true rfl⟩) (pcSz (zX_ok) hPc hDc hKc hN hZ.1 hS hFc) rfl rfl hl.1 rfl (lv_room (Nat.le_of_ble_eq_true rfl)) dL_law_646 ⟨Nat.le_of_ble_eq_true rfl, Nat.le_of_ble_eq_true rfl⟩) hS (fun q _ h => hFc q h) hFc (fun q _ h => hFc q h) (fun E9 ce9 q9 u9 t9 H9 locs9 ht9 hvm9 hp9 hE9 hz9 hk9 hS9 hc9 hv9 hcl9 => hE9.elim) (fun r_3 u t H1 locs ht hvm hw_4 hB hz1 hk1 hS => ?_)
  obtain of_2 := u
  obtain ⟨hP1, hK1, hD1⟩ := hB
  rw [ht] at hP1
  try dsimp only at hw_4
  obtain ⟨hP, hD⟩ := va_join (wr := [(xm, .inr (20, [.int 0, .int 0, .ref kn, .int 0, .int 0, .int 0, .ref ml, .ref cl, .ref rg, .ref tR, .ref (aK 0), .ref (aK 0), .ref fl, .int 0, .int 0, .int 0, .int 0, .int 0, .int 0, .int 0, .null])), (ml, .inr (4, [.int 0, .ref e0, .int 0]))]) (w1 := [(ou, .inl (cL, 1, .inr (.inl of_2)))]) hP hD [0, 1] [2, 3] rfl rfl (by decide) (by decide) hk1 hFc hP1 hD1
  generalize H1 = H at hP hS ⊢
  have hP : va_P (dC, dI) vwCl [(xm, .inr (20, [.int 0, .int 0, .ref kn, .int 0, .int 0, .int 0, .ref ml, .ref cl, .ref rg, .ref tR, .ref (aK 0), .ref (aK 0), .ref fl, .int 0, .int 0, .int 0, .int 0, .int 0, .int 0, .int 0, .null])), (ml, .inr (4, [.int 0, .ref e0, .int 0])), (ou, .inl (cL, 1, .inr (.inl of_2)))] H := hP
  have hD : va_D A [(xm, .inr (20, [.int 0, .int 0, .ref kn, .int 0, .int 0, .int 0, .ref ml, .ref cl, .ref rg, .ref tR, .ref (aK 0), .ref (aK 0), .ref fl, .int 0, .int 0, .int 0, .int 0, .int 0, .int 0, .int 0, .null])), (ml, .inr (4, [.int 0, .ref e0, .int 0])), (ou, .inl (cL, 1, .inr (.inl of_2)))] := hD
  refine W.widen (k := 201) (n := 60006) (Nat.le_of_ble_eq_true rfl) (Nat.le_of_ble_eq_true rfl) ?_
  obtain rfl : r_3 = 1 := hw_4
  refine lv_istore (lv' := [(6, .int 1), (0, .ref b), (1, .ref ya), (2, .ref xm), (3, .ref ou), (4, .ref od), (5, .int 0)]) hx hb dL_law_649 hl (by decide) rfl (fun ls hl => ?_)
  refine lv_aload_n hx hb dL_law_651 rfl (lv_at hl 3 rfl) ?_
  refine lv_aload_n hx hb dL_law_652 rfl (lv_at hl 1 rfl) ?_
  refine lv_iload hx hb dL_law_653 (lv_at hl 6 rfl) ?_
  refine lv_iconst (v := 1) hx hb dL_law_655 (by decide) ?_
  refine lv_iadd hx hb dL_law_656 ?_
  refine va_sld hx hb hX hbl hbA hS sx1 dL_law_657 ?_
  refine lv_topi (fun x_5 ex_5 => ?_)
  obtain rfl : s1 = x_5 := (ex_5.trans hs1.symm).symm
  have hPc := hP.sub (ws' := [(xm, .inr (20, [.int 0, .int 0, .ref kn, .int 0, .int 0, .int 0, .ref ml, .ref cl, .ref rg, .ref tR, .ref (aK 0), .ref (aK 0), .ref fl, .int 0, .int 0, .int 0, .int 0, .int 0, .int 0, .int 0, .null])), (ml, .inr (4, [.int 0, .ref e0, .int 0]))]) [0, 1] rfl
  have hDc := hD.sub (ws' := [(xm, .inr (20, [.int 0, .int 0, .ref kn, .int 0, .int 0, .int 0, .ref ml, .ref cl, .ref rg, .ref tR, .ref (aK 0), .ref (aK 0), .ref fl, .int 0, .int 0, .int 0, .int 0, .int 0, .int 0, .int 0, .null])), (ml, .inr (4, [.int 0, .ref e0, .int 0]))]) [0, 1] (by decide) rfl
  have hKc := hK.sub (tys' := []) [] rfl
  have hFc := va_free (wc := [(xm, .inr (20, [.int 0, .int 0, .ref kn, .int 0, .int 0, .int 0, .ref ml, .ref cl, .ref rg, .ref tR, .ref (aK 0), .ref (aK 0), .ref fl, .int 0, .int 0, .int 0, .int 0, .int 0, .int 0, .int 0, .null])), (ml, .inr (4, [.int 0, .ref e0, .int 0]))]) hD hS hA [0, 1] rfl
  refine va_calli (va_runV (As := [.int s1]) (rest := []) ⟨hx, hb, hml, hown, hts⟩ (c_X15_hasHalted l dC dI xm ml cl fl kn rg tR e0 aK aV s1 H.size) (cwV 1 hts gL_law_X15_hasHalted rfl rfl rfl (by decide +kernel) ⟨Nat.le_of_ble_eq_true rfl, Nat.le_of_ble_eq_true rfl⟩) (pcV hPc hDc hKc hN (ci := 20) (q0 := 0) rfl rfl) rfl rfl hl.1 rfl (lv_room (Nat.le_of_ble_eq_true rfl)) dL_law_658 ⟨Nat.le_of_ble_eq_true rfl, Nat.le_of_ble_eq_true rfl⟩) hS (fun q _ h => hFc q h) hFc (fun r_7 u t H1 locs ht hvm hw_8 hB hz1 hk1 hS => ?_)
  obtain fs_6 := u
  obtain ⟨hP1, hK1, hD1⟩ := hB
  rw [ht] at hP1
  try dsimp only at hw_8
  obtain ⟨hP, hD⟩ := va_join (wr := [(ou, .inl (cL, 1, .inr (.inl of_2)))]) (w1 := [(xm, .inr (20, fs_6))]) hP hD [0, 1] [2] rfl rfl (by decide) (by decide) hk1 hFc hP1 hD1
  generalize H1 = H at hP hS ⊢
  have hP : va_P (dC, dI) vwCl [(ou, .inl (cL, 1, .inr (.inl of_2))), (xm, .inr (20, fs_6))] H := hP
  have hD : va_D A [(ou, .inl (cL, 1, .inr (.inl of_2))), (xm, .inr (20, fs_6))] := hD
  refine lv_istore (lv' := [(7, .int r_7), (6, .int 1), (0, .ref b), (1, .ref ya), (2, .ref xm), (3, .ref ou), (4, .ref od), (5, .int 0)]) hx hb dL_law_661 hl (by decide) rfl (fun ls hl => ?_)
  refine lv_aload_n hx hb dL_law_663 rfl (lv_at hl 4 rfl) ?_
  have hPc := hP.sub (ws' := [(xm, .inr (20, fs_6))]) [1] rfl
  have hDc := hD.sub (ws' := [(xm, .inr (20, fs_6))]) [1] (by decide) rfl
  have hKc := hK.sub (tys' := []) [] rfl
  have hFc := va_free (wc := [(xm, .inr (20, fs_6))]) hD hS hA [1] rfl
  refine va_calli (va_runV (As := []) (rest := []) ⟨hx, hb, hml, hown, hts⟩ (c_X15_thrown l dC dI xm fs_6 1 hw_8 H.size) (cwV 0 hts gL_law_X15_thrown rfl rfl rfl (by decide +kernel) ⟨Nat.le_of_ble_eq_true rfl, Nat.le_of_ble_eq_true rfl⟩) (pcV hPc hDc hKc hN (ci := 20) (q0 := 0) rfl rfl) rfl rfl hl.1 rfl (lv_room (Nat.le_of_ble_eq_true rfl)) dL_law_664 ⟨Nat.le_of_ble_eq_true rfl, Nat.le_of_ble_eq_true rfl⟩) hS (fun q _ h => hFc q h) hFc (fun r_9 u t H1 locs ht hvm hw_10 hB hz1 hk1 hS => ?_)
  obtain ⟨hP1, hK1, hD1⟩ := hB
  rw [ht] at hP1
  try dsimp only at hw_10
  obtain ⟨hP, hD⟩ := va_join (wr := [(ou, .inl (cL, 1, .inr (.inl of_2)))]) (w1 := []) hP hD [1] [0] rfl rfl (by decide) (by decide) hk1 hFc hP1 hD1
  generalize H1 = H at hP hS ⊢
  have hP : va_P (dC, dI) vwCl [(ou, .inl (cL, 1, .inr (.inl of_2)))] H := hP
  have hD : va_D A [(ou, .inl (cL, 1, .inr (.inl of_2)))] := hD
  obtain rfl : r_9 = 1 := hw_10
  refine lv_iload hx hb dL_law_667 (lv_at hl 1 rfl) ?_
  refine lv_icmp_eq (tgt := 674) hx hb dL_law_669 (by decide) (fun c669_11 => ?_) (fun c669_11 => ?_)
  · refine lv_iload hx hb dL_law_674 (lv_at hl 1 rfl) ?_
    refine lv_if_ne (tgt := 698) hx hb dL_law_676 (by decide) (fun c676_12 => ?_) (fun c676_12 => ?_)
    · refine lv_goto (tgt := 2778) hx hb dL_law_698 (by decide) ?_
      refine W.widen (k := 600006) (n := 7302039) (Nat.le_of_ble_eq_true rfl) (Nat.le_of_ble_eq_true rfl) ?_
      exact law_end hx hb hr hml hX hbl hlocks hbA hAo hS (lv_sub hl [2, 7] rfl)
    · exact absurd c676_12 (by decide)
  · exact (c669_11 (by decide)).elim

set_option maxHeartbeats 8000000 in
set_option maxRecDepth 100000 in
/-- the law: law_6_ran -/
theorem law_6_ran {p : Program} {e : Env} {s : State} {m : MethodId} {below : List Frame} {meth : Method} {c : Code} {l : Launch} {b : Nat} {xs : Nat → Int32} (hx : p.tables.exec = Jvm.exec) (hb : c.code = cL_law) (hr : meth.sig.returnType = ret) (hml : c.maxLocals = 9) (hfl : l.stackTraces = false) (hown : s.vm.findClass RL = some m.cls) (hts : ∀ w ∈ wsL_law, w.before #[Value.ref b] s = true) (hX : va_X b 7 xs s s.heap) (hbl : b < s.heap.size) (hlocks : meth.locks = false) {A : Nat → Prop} (hbA : ¬ A b) (hAo : ∀ q, A q → s.heap.size ≤ q) (hA : ∀ q : Nat, s.heap.size ≤ q → A q) (dC : Nat → ClassId) (dI : Nat → Nat → Nat) (hN : nwA s) (e0 : Nat) (aK aV : Nat → Nat) (hZ : zX A s s.heap ∧ zM e0 aK aV A s s.heap) (ya ms ju rj tj ro rn tn rh th ca sa da xa wb z1 z2 jt z3 br z4 z5 z6 lk z7 z8 li bm l2 z9 bo h2 mm l1 z10 oo h1 ct cr cu cg cp co tg ts tr tk te fw fo fu xm ml cl fl rg tR ou od kn : Nat) (cI cM cS cL cD cB : ClassId) {H : Heap} {locs : List Loc} (hP : va_P (dC, dI) vwCl [(ya, .inr (16, [.ref ms, .int 0, .ref ju, .ref li, .ref ct, .ref tg, .ref fw])), (ou, .inl (cL, 1, .inr (.inl (fun _ => 0)))), (xm, .inr (20, [.int 0, .int 0, .ref kn, .int 0, .int 0, .int 0, .ref ml, .ref cl, .ref rg, .ref tR, .ref (aK 0), .ref (aK 0), .ref fl, .int 0, .int 0, .int 0, .int 0, .int 0, .int 0, .int 0, .null])), (ml, .inr (4, [.int 0, .ref e0, .int 0]))] H) (hD : va_D A [(ya, .inr (16, [.ref ms, .int 0, .ref ju, .ref li, .ref ct, .ref tg, .ref fw])), (ou, .inl (cL, 1, .inr (.inl (fun _ => 0)))), (xm, .inr (20, [.int 0, .int 0, .ref kn, .int 0, .int 0, .int 0, .ref ml, .ref cl, .ref rg, .ref tR, .ref (aK 0), .ref (aK 0), .ref fl, .int 0, .int 0, .int 0, .int 0, .int 0, .int 0, .int 0, .null])), (ml, .inr (4, [.int 0, .ref e0, .int 0]))]) (hK : va_K (dC, dI) vwCl [(cL, .long)] s) (hS : va_S A s.heap H locs) {ls : Array Slot} (hl : lv_has ls 9 [(0, .ref b), (1, .ref ya), (2, .ref xm), (3, .ref ou), (4, .ref od), (5, .int 0)]) : W p l e room_1 s m #[Value.ref b] below meth c H locs 200 60000 (lw_Z below #[Value.ref b] s) (F0 m 701 ls []) := by
  obtain ⟨s1, hs1⟩ : ∃ z, z = xs ((0 : Int32) + 1).toNatClampNeg := ⟨_, rfl⟩
  obtain ⟨s2, hs2⟩ : ∃ z, z = xs ((0 : Int32) + 2).toNatClampNeg := ⟨_, rfl⟩
  obtain ⟨s3, hs3⟩ : ∃ z, z = xs ((0 : Int32) + 3).toNatClampNeg := ⟨_, rfl⟩
  obtain ⟨s4, hs4⟩ : ∃ z, z = xs ((0 : Int32) + 4).toNatClampNeg := ⟨_, rfl⟩
  obtain ⟨s5, hs5⟩ : ∃ z, z = xs ((0 : Int32) + 5).toNatClampNeg := ⟨_, rfl⟩
  obtain ⟨s6, hs6⟩ : ∃ z, z = xs ((0 : Int32) + 6).toNatClampNeg := ⟨_, rfl⟩
  obtain ⟨k1, hk1⟩ : ∃ z, z = (s1.toUInt32 % 65536).toInt32 := ⟨_, rfl⟩
  obtain ⟨k2, hk2⟩ : ∃ z, z = (s2.toUInt32 % 65536).toInt32 := ⟨_, rfl⟩
  obtain ⟨k3, hk3⟩ : ∃ z, z = (s3.toUInt32 % 65536).toInt32 := ⟨_, rfl⟩
  obtain ⟨k4, hk4⟩ : ∃ z, z = (s4.toUInt32 % 65536).toInt32 := ⟨_, rfl⟩
  obtain ⟨k5, hk5⟩ : ∃ z, z = (s5.toUInt32 % 65536).toInt32 := ⟨_, rfl⟩
  obtain ⟨k6, hk6⟩ : ∃ z, z = (s6.toUInt32 % 65536).toInt32 := ⟨_, rfl⟩
  refine lv_aload_n hx hb dL_law_701 rfl (lv_at hl 1 rfl) ?_
  refine lv_aload_n hx hb dL_law_702 rfl (lv_at hl 0 rfl) ?_
  refine lv_iload hx hb dL_law_703 (lv_at hl 5 rfl) ?_
  refine lv_iconst (v := 1) hx hb dL_law_705 (by decide) ?_
  refine lv_iadd hx hb dL_law_706 ?_
  refine va_sld hx hb hX hbl hbA hS sx1 dL_law_707 ?_
  refine lv_topi (fun x_1 ex_1 => ?_)
  obtain rfl : s1 = x_1 := (ex_1.trans hs1.symm).symm
  refine lv_aload_n hx hb dL_law_708 rfl (lv_at hl 0 rfl) ?_
  refine lv_iload hx hb dL_law_709 (lv_at hl 5 rfl) ?_
  refine lv_iconst (v := 2) hx hb dL_law_711 (by decide) ?_
  refine lv_iadd hx hb dL_law_712 ?_
  refine va_sld hx hb hX hbl hbA hS sx2 dL_law_713 ?_
  refine lv_topi (fun x_2 ex_2 => ?_)
  obtain rfl : s2 = x_2 := (ex_2.trans hs2.symm).symm
  refine lv_i2c hx hb dL_law_714 rfl ?_
  refine lv_topi (fun x_3 ex_3 => ?_)
  obtain rfl : k2 = x_3 := (ex_3.trans hk2.symm).symm
  refine lv_aload_n hx hb dL_law_715 rfl (lv_at hl 3 rfl) ?_
  have hPc := hP.sub (ws' := [(ya, .inr (16, [.ref ms, .int 0, .ref ju, .ref li, .ref ct, .ref tg, .ref fw])), (ou, .inl (cL, 1, .inr (.inl (fun _ => 0))))]) [0, 1] rfl
  have hDc := hD.sub (ws' := [(ya, .inr (16, [.ref ms, .int 0, .ref ju, .ref li, .ref ct, .ref tg, .ref fw])), (ou, .inl (cL, 1, .inr (.inl (fun _ => 0))))]) [0, 1] (by decide) rfl
  have hKc := hK.sub (tys' := [(cL, .long)]) [0] rfl
  have hFc := va_free (wc := [(ya, .inr (16, [.ref ms, .int 0, .ref ju, .ref li, .ref ct, .ref tg, .ref fw])), (ou, .inl (cL, 1, .inr (.inl (fun _ => 0))))]) hD hS hA [0, 1] rfl
  refine vx_calli (vx_runSX (As := [.ref ya, .int s1, .int k2, .ref ou]) (rest := []) ⟨hx, hb, hml, hown, hts⟩ (c_L_ran l hfl dC dI ya ms ju li ct tg fw s1 k2 cL ou (fun _ => 0) H.size) (vx_cwSW 4 hts gL_law_L_ran rfl rfl rfl (by decide +kernel) ⟨Nat.le_of_ble_eq_true rfl, Nat.le_of_ble_eq_true rfl⟩) (pcSz (zX_ok) hPc hDc hKc hN hZ.1 hS hFc) rfl rfl hl.1 rfl (lv_room (Nat.le_of_ble_eq_true rfl)) dL_law_716 ⟨Nat.le_of_ble_eq_true rfl, Nat.le_of_ble_eq_true rfl⟩) hS (fun q _ h => hFc q h) hFc (fun q _ h => hFc q h) (fun E9 ce9 q9 u9 t9 H9 locs9 ht9 hvm9 hp9 hE9 hz9 hk9 hS9 hc9 hv9 hcl9 => hE9.elim) (fun r_5 u t H1 locs ht hvm hw_6 hB hz1 hk1 hS => ?_)
  obtain of_4 := u
  obtain ⟨hP1, hK1, hD1⟩ := hB
  rw [ht] at hP1
  try dsimp only at hw_6
  obtain ⟨hP, hD⟩ := va_join (wr := [(xm, .inr (20, [.int 0, .int 0, .ref kn, .int 0, .int 0, .int 0, .ref ml, .ref cl, .ref rg, .ref tR, .ref (aK 0), .ref (aK 0), .ref fl, .int 0, .int 0, .int 0, .int 0, .int 0, .int 0, .int 0, .null])), (ml, .inr (4, [.int 0, .ref e0, .int 0]))]) (w1 := [(ou, .inl (cL, 1, .inr (.inl of_4)))]) hP hD [0, 1] [2, 3] rfl rfl (by decide) (by decide) hk1 hFc hP1 hD1
  generalize H1 = H at hP hS ⊢
  have hP : va_P (dC, dI) vwCl [(xm, .inr (20, [.int 0, .int 0, .ref kn, .int 0, .int 0, .int 0, .ref ml, .ref cl, .ref rg, .ref tR, .ref (aK 0), .ref (aK 0), .ref fl, .int 0, .int 0, .int 0, .int 0, .int 0, .int 0, .int 0, .null])), (ml, .inr (4, [.int 0, .ref e0, .int 0])), (ou, .inl (cL, 1, .inr (.inl of_4)))] H := hP
  have hD : va_D A [(xm, .inr (20, [.int 0, .int 0, .ref kn, .int 0, .int 0, .int 0, .ref ml, .ref cl, .ref rg, .ref tR, .ref (aK 0), .ref (aK 0), .ref fl, .int 0, .int 0, .int 0, .int 0, .int 0, .int 0, .int 0, .null])), (ml, .inr (4, [.int 0, .ref e0, .int 0])), (ou, .inl (cL, 1, .inr (.inl of_4)))] := hD
  refine W.widen (k := 201) (n := 60006) (Nat.le_of_ble_eq_true rfl) (Nat.le_of_ble_eq_true rfl) ?_
  obtain rfl : r_5 = 1 := hw_6
  refine lv_istore (lv' := [(6, .int 1), (0, .ref b), (1, .ref ya), (2, .ref xm), (3, .ref ou), (4, .ref od), (5, .int 0)]) hx hb dL_law_719 hl (by decide) rfl (fun ls hl => ?_)
  refine lv_aload_n hx hb dL_law_721 rfl (lv_at hl 3 rfl) ?_
  refine lv_aload_n hx hb dL_law_722 rfl (lv_at hl 1 rfl) ?_
  refine lv_iload hx hb dL_law_723 (lv_at hl 6 rfl) ?_
  refine lv_iconst (v := 1) hx hb dL_law_725 (by decide) ?_
  refine lv_iadd hx hb dL_law_726 ?_
  refine va_sld hx hb hX hbl hbA hS sx1 dL_law_727 ?_
  refine lv_topi (fun x_7 ex_7 => ?_)
  obtain rfl : s1 = x_7 := (ex_7.trans hs1.symm).symm
  refine lv_aload_n hx hb dL_law_728 rfl (lv_at hl 1 rfl) ?_
  refine lv_iload hx hb dL_law_729 (lv_at hl 6 rfl) ?_
  refine lv_iconst (v := 2) hx hb dL_law_731 (by decide) ?_
  refine lv_iadd hx hb dL_law_732 ?_
  refine va_sld hx hb hX hbl hbA hS sx2 dL_law_733 ?_
  refine lv_topi (fun x_8 ex_8 => ?_)
  obtain rfl : s2 = x_8 := (ex_8.trans hs2.symm).symm
  refine lv_i2c hx hb dL_law_734 rfl ?_
  refine lv_topi (fun x_9 ex_9 => ?_)
  obtain rfl : k2 = x_9 := (ex_9.trans hk2.symm).symm
  have hPc := hP.sub (ws' := [(xm, .inr (20, [.int 0, .int 0, .ref kn, .int 0, .int 0, .int 0, .ref ml, .ref cl, .ref rg, .ref tR, .ref (aK 0), .ref (aK 0), .ref fl, .int 0, .int 0, .int 0, .int 0, .int 0, .int 0, .int 0, .null])), (ml, .inr (4, [.int 0, .ref e0, .int 0]))]) [0, 1] rfl
  have hDc := hD.sub (ws' := [(xm, .inr (20, [.int 0, .int 0, .ref kn, .int 0, .int 0, .int 0, .ref ml, .ref cl, .ref rg, .ref tR, .ref (aK 0), .ref (aK 0), .ref fl, .int 0, .int 0, .int 0, .int 0, .int 0, .int 0, .int 0, .null])), (ml, .inr (4, [.int 0, .ref e0, .int 0]))]) [0, 1] (by decide) rfl
  have hKc := hK.sub (tys' := []) [] rfl
  have hFc := va_free (wc := [(xm, .inr (20, [.int 0, .int 0, .ref kn, .int 0, .int 0, .int 0, .ref ml, .ref cl, .ref rg, .ref tR, .ref (aK 0), .ref (aK 0), .ref fl, .int 0, .int 0, .int 0, .int 0, .int 0, .int 0, .int 0, .null])), (ml, .inr (4, [.int 0, .ref e0, .int 0]))]) hD hS hA [0, 1] rfl
  refine va_calli (va_runV (As := [.int s1, .int k2]) (rest := []) ⟨hx, hb, hml, hown, hts⟩ (c_X15_ran l dC dI xm ml cl fl kn rg tR e0 aK aV s1 k2 H.size) (cwV 2 hts gL_law_X15_ran rfl rfl rfl (by decide +kernel) ⟨Nat.le_of_ble_eq_true rfl, Nat.le_of_ble_eq_true rfl⟩) (pcV hPc hDc hKc hN (ci := 20) (q0 := 0) rfl rfl) rfl rfl hl.1 rfl (lv_room (Nat.le_of_ble_eq_true rfl)) dL_law_735 ⟨Nat.le_of_ble_eq_true rfl, Nat.le_of_ble_eq_true rfl⟩) hS (fun q _ h => hFc q h) hFc (fun r_11 u t H1 locs ht hvm hw_12 hB hz1 hk1 hS => ?_)
  obtain fs_10 := u
  obtain ⟨hP1, hK1, hD1⟩ := hB
  rw [ht] at hP1
  try dsimp only at hw_12
  obtain ⟨hP, hD⟩ := va_join (wr := [(ou, .inl (cL, 1, .inr (.inl of_4)))]) (w1 := [(xm, .inr (20, fs_10))]) hP hD [0, 1] [2] rfl rfl (by decide) (by decide) hk1 hFc hP1 hD1
  generalize H1 = H at hP hS ⊢
  have hP : va_P (dC, dI) vwCl [(ou, .inl (cL, 1, .inr (.inl of_4))), (xm, .inr (20, fs_10))] H := hP
  have hD : va_D A [(ou, .inl (cL, 1, .inr (.inl of_4))), (xm, .inr (20, fs_10))] := hD
  refine lv_istore (lv' := [(7, .int r_11), (6, .int 1), (0, .ref b), (1, .ref ya), (2, .ref xm), (3, .ref ou), (4, .ref od), (5, .int 0)]) hx hb dL_law_738 hl (by decide) rfl (fun ls hl => ?_)
  refine lv_aload_n hx hb dL_law_740 rfl (lv_at hl 4 rfl) ?_
  have hPc := hP.sub (ws' := [(xm, .inr (20, fs_10))]) [1] rfl
  have hDc := hD.sub (ws' := [(xm, .inr (20, fs_10))]) [1] (by decide) rfl
  have hKc := hK.sub (tys' := []) [] rfl
  have hFc := va_free (wc := [(xm, .inr (20, fs_10))]) hD hS hA [1] rfl
  refine va_calli (va_runV (As := []) (rest := []) ⟨hx, hb, hml, hown, hts⟩ (c_X15_thrown l dC dI xm fs_10 1 hw_12 H.size) (cwV 0 hts gL_law_X15_thrown rfl rfl rfl (by decide +kernel) ⟨Nat.le_of_ble_eq_true rfl, Nat.le_of_ble_eq_true rfl⟩) (pcV hPc hDc hKc hN (ci := 20) (q0 := 0) rfl rfl) rfl rfl hl.1 rfl (lv_room (Nat.le_of_ble_eq_true rfl)) dL_law_741 ⟨Nat.le_of_ble_eq_true rfl, Nat.le_of_ble_eq_true rfl⟩) hS (fun q _ h => hFc q h) hFc (fun r_13 u t H1 locs ht hvm hw_14 hB hz1 hk1 hS => ?_)
  obtain ⟨hP1, hK1, hD1⟩ := hB
  rw [ht] at hP1
  try dsimp only at hw_14
  obtain ⟨hP, hD⟩ := va_join (wr := [(ou, .inl (cL, 1, .inr (.inl of_4)))]) (w1 := []) hP hD [1] [0] rfl rfl (by decide) (by decide) hk1 hFc hP1 hD1
  generalize H1 = H at hP hS ⊢
  have hP : va_P (dC, dI) vwCl [(ou, .inl (cL, 1, .inr (.inl of_4)))] H := hP
  have hD : va_D A [(ou, .inl (cL, 1, .inr (.inl of_4)))] := hD
  obtain rfl : r_13 = 1 := hw_14
  refine lv_iload hx hb dL_law_744 (lv_at hl 1 rfl) ?_
  refine lv_icmp_eq (tgt := 751) hx hb dL_law_746 (by decide) (fun c746_15 => ?_) (fun c746_15 => ?_)
  · refine lv_iload hx hb dL_law_751 (lv_at hl 1 rfl) ?_
    refine lv_if_ne (tgt := 768) hx hb dL_law_753 (by decide) (fun c753_16 => ?_) (fun c753_16 => ?_)
    · refine lv_goto (tgt := 2778) hx hb dL_law_768 (by decide) ?_
      refine W.widen (k := 600006) (n := 7302039) (Nat.le_of_ble_eq_true rfl) (Nat.le_of_ble_eq_true rfl) ?_
      exact law_end hx hb hr hml hX hbl hlocks hbA hAo hS (lv_sub hl [2, 7] rfl)
    · exact absurd c753_16 (by decide)
  · exact (c746_15 (by decide)).elim

set_option maxHeartbeats 8000000 in
set_option maxRecDepth 100000 in
/-- the law: law_7_signAt -/
theorem law_7_signAt {p : Program} {e : Env} {s : State} {m : MethodId} {below : List Frame} {meth : Method} {c : Code} {l : Launch} {b : Nat} {xs : Nat → Int32} (hx : p.tables.exec = Jvm.exec) (hb : c.code = cL_law) (hr : meth.sig.returnType = ret) (hml : c.maxLocals = 9) (hfl : l.stackTraces = false) (hown : s.vm.findClass RL = some m.cls) (hts : ∀ w ∈ wsL_law, w.before #[Value.ref b] s = true) (hX : va_X b 7 xs s s.heap) (hbl : b < s.heap.size) (hlocks : meth.locks = false) {A : Nat → Prop} (hbA : ¬ A b) (hAo : ∀ q, A q → s.heap.size ≤ q) (hA : ∀ q : Nat, s.heap.size ≤ q → A q) (dC : Nat → ClassId) (dI : Nat → Nat → Nat) (hN : nwA s) (e0 : Nat) (aK aV : Nat → Nat) (hZ : zX A s s.heap ∧ zM e0 aK aV A s s.heap) (ya ms ju rj tj ro rn tn rh th ca sa da xa wb z1 z2 jt z3 br z4 z5 z6 lk z7 z8 li bm l2 z9 bo h2 mm l1 z10 oo h1 ct cr cu cg cp co tg ts tr tk te fw fo fu xm ml cl fl rg tR ou od kn : Nat) (cI cM cS cL cD cB : ClassId) {H : Heap} {locs : List Loc} (hP : va_P (dC, dI) vwCl [(ya, .inr (16, [.ref ms, .int 0, .ref ju, .ref li, .ref ct, .ref tg, .ref fw])), (ou, .inl (cL, 1, .inr (.inl (fun _ => 0)))), (xm, .inr (20, [.int 0, .int 0, .ref kn, .int 0, .int 0, .int 0, .ref ml, .ref cl, .ref rg, .ref tR, .ref (aK 0), .ref (aK 0), .ref fl, .int 0, .int 0, .int 0, .int 0, .int 0, .int 0, .int 0, .null])), (ml, .inr (4, [.int 0, .ref e0, .int 0]))] H) (hD : va_D A [(ya, .inr (16, [.ref ms, .int 0, .ref ju, .ref li, .ref ct, .ref tg, .ref fw])), (ou, .inl (cL, 1, .inr (.inl (fun _ => 0)))), (xm, .inr (20, [.int 0, .int 0, .ref kn, .int 0, .int 0, .int 0, .ref ml, .ref cl, .ref rg, .ref tR, .ref (aK 0), .ref (aK 0), .ref fl, .int 0, .int 0, .int 0, .int 0, .int 0, .int 0, .int 0, .null])), (ml, .inr (4, [.int 0, .ref e0, .int 0]))]) (hK : va_K (dC, dI) vwCl [(cL, .long)] s) (hS : va_S A s.heap H locs) {ls : Array Slot} (hl : lv_has ls 9 [(0, .ref b), (1, .ref ya), (2, .ref xm), (3, .ref ou), (4, .ref od), (5, .int 0)]) : W p l e room_1 s m #[Value.ref b] below meth c H locs 200 60000 (lw_Z below #[Value.ref b] s) (F0 m 771 ls []) := by
  obtain ⟨s1, hs1⟩ : ∃ z, z = xs ((0 : Int32) + 1).toNatClampNeg := ⟨_, rfl⟩
  obtain ⟨s2, hs2⟩ : ∃ z, z = xs ((0 : Int32) + 2).toNatClampNeg := ⟨_, rfl⟩
  obtain ⟨s3, hs3⟩ : ∃ z, z = xs ((0 : Int32) + 3).toNatClampNeg := ⟨_, rfl⟩
  obtain ⟨s4, hs4⟩ : ∃ z, z = xs ((0 : Int32) + 4).toNatClampNeg := ⟨_, rfl⟩
  obtain ⟨s5, hs5⟩ : ∃ z, z = xs ((0 : Int32) + 5).toNatClampNeg := ⟨_, rfl⟩
  obtain ⟨s6, hs6⟩ : ∃ z, z = xs ((0 : Int32) + 6).toNatClampNeg := ⟨_, rfl⟩
  obtain ⟨k1, hk1⟩ : ∃ z, z = (s1.toUInt32 % 65536).toInt32 := ⟨_, rfl⟩
  obtain ⟨k2, hk2⟩ : ∃ z, z = (s2.toUInt32 % 65536).toInt32 := ⟨_, rfl⟩
  obtain ⟨k3, hk3⟩ : ∃ z, z = (s3.toUInt32 % 65536).toInt32 := ⟨_, rfl⟩
  obtain ⟨k4, hk4⟩ : ∃ z, z = (s4.toUInt32 % 65536).toInt32 := ⟨_, rfl⟩
  obtain ⟨k5, hk5⟩ : ∃ z, z = (s5.toUInt32 % 65536).toInt32 := ⟨_, rfl⟩
  obtain ⟨k6, hk6⟩ : ∃ z, z = (s6.toUInt32 % 65536).toInt32 := ⟨_, rfl⟩
  refine lv_aload_n hx hb dL_law_771 rfl (lv_at hl 1 rfl) ?_
  refine lv_aload_n hx hb dL_law_772 rfl (lv_at hl 0 rfl) ?_
  refine lv_iload hx hb dL_law_773 (lv_at hl 5 rfl) ?_
  refine lv_iconst (v := 1) hx hb dL_law_775 (by decide) ?_
  refine lv_iadd hx hb dL_law_776 ?_
  refine va_sld hx hb hX hbl hbA hS sx1 dL_law_777 ?_
  refine lv_topi (fun x_1 ex_1 => ?_)
  obtain rfl : s1 = x_1 := (ex_1.trans hs1.symm).symm
  refine lv_aload_n hx hb dL_law_778 rfl (lv_at hl 0 rfl) ?_
  refine lv_iload hx hb dL_law_779 (lv_at hl 5 rfl) ?_
  refine lv_iconst (v := 2) hx hb dL_law_781 (by decide) ?_
  refine lv_iadd hx hb dL_law_782 ?_
  refine va_sld hx hb hX hbl hbA hS sx2 dL_law_783 ?_
  refine lv_topi (fun x_2 ex_2 => ?_)
  obtain rfl : s2 = x_2 := (ex_2.trans hs2.symm).symm
  refine lv_aload_n hx hb dL_law_784 rfl (lv_at hl 3 rfl) ?_
  have hPc := hP.sub (ws' := [(ya, .inr (16, [.ref ms, .int 0, .ref ju, .ref li, .ref ct, .ref tg, .ref fw])), (ou, .inl (cL, 1, .inr (.inl (fun _ => 0))))]) [0, 1] rfl
  have hDc := hD.sub (ws' := [(ya, .inr (16, [.ref ms, .int 0, .ref ju, .ref li, .ref ct, .ref tg, .ref fw])), (ou, .inl (cL, 1, .inr (.inl (fun _ => 0))))]) [0, 1] (by decide) rfl
  have hKc := hK.sub (tys' := [(cL, .long)]) [0] rfl
  have hFc := va_free (wc := [(ya, .inr (16, [.ref ms, .int 0, .ref ju, .ref li, .ref ct, .ref tg, .ref fw])), (ou, .inl (cL, 1, .inr (.inl (fun _ => 0))))]) hD hS hA [0, 1] rfl
  refine vx_calli (vx_runSX (As := [.ref ya, .int s1, .int s2, .ref ou]) (rest := []) ⟨hx, hb, hml, hown, hts⟩ (c_L_signAt l hfl dC dI ya ms ju li ct tg fw s1 s2 cL ou (fun _ => 0) H.size) (vx_cwSW 4 hts gL_law_L_signAt rfl rfl rfl (by decide +kernel) ⟨Nat.le_of_ble_eq_true rfl, Nat.le_of_ble_eq_true rfl⟩) (pcSz (zX_ok) hPc hDc hKc hN hZ.1 hS hFc) rfl rfl hl.1 rfl (lv_room (Nat.le_of_ble_eq_true rfl)) dL_law_785 ⟨Nat.le_of_ble_eq_true rfl, Nat.le_of_ble_eq_true rfl⟩) hS (fun q _ h => hFc q h) hFc (fun q _ h => hFc q h) (fun E9 ce9 q9 u9 t9 H9 locs9 ht9 hvm9 hp9 hE9 hz9 hk9 hS9 hc9 hv9 hcl9 => hE9.elim) (fun r_4 u t H1 locs ht hvm hw_5 hB hz1 hk1 hS => ?_)
  obtain of_3 := u
  obtain ⟨hP1, hK1, hD1⟩ := hB
  rw [ht] at hP1
  try dsimp only at hw_5
  obtain ⟨hP, hD⟩ := va_join (wr := [(xm, .inr (20, [.int 0, .int 0, .ref kn, .int 0, .int 0, .int 0, .ref ml, .ref cl, .ref rg, .ref tR, .ref (aK 0), .ref (aK 0), .ref fl, .int 0, .int 0, .int 0, .int 0, .int 0, .int 0, .int 0, .null])), (ml, .inr (4, [.int 0, .ref e0, .int 0]))]) (w1 := [(ou, .inl (cL, 1, .inr (.inl of_3)))]) hP hD [0, 1] [2, 3] rfl rfl (by decide) (by decide) hk1 hFc hP1 hD1
  generalize H1 = H at hP hS ⊢
  have hP : va_P (dC, dI) vwCl [(xm, .inr (20, [.int 0, .int 0, .ref kn, .int 0, .int 0, .int 0, .ref ml, .ref cl, .ref rg, .ref tR, .ref (aK 0), .ref (aK 0), .ref fl, .int 0, .int 0, .int 0, .int 0, .int 0, .int 0, .int 0, .null])), (ml, .inr (4, [.int 0, .ref e0, .int 0])), (ou, .inl (cL, 1, .inr (.inl of_3)))] H := hP
  have hD : va_D A [(xm, .inr (20, [.int 0, .int 0, .ref kn, .int 0, .int 0, .int 0, .ref ml, .ref cl, .ref rg, .ref tR, .ref (aK 0), .ref (aK 0), .ref fl, .int 0, .int 0, .int 0, .int 0, .int 0, .int 0, .int 0, .null])), (ml, .inr (4, [.int 0, .ref e0, .int 0])), (ou, .inl (cL, 1, .inr (.inl of_3)))] := hD
  refine W.widen (k := 201) (n := 60006) (Nat.le_of_ble_eq_true rfl) (Nat.le_of_ble_eq_true rfl) ?_
  obtain rfl : r_4 = 1 := hw_5
  refine lv_istore (lv' := [(6, .int 1), (0, .ref b), (1, .ref ya), (2, .ref xm), (3, .ref ou), (4, .ref od), (5, .int 0)]) hx hb dL_law_788 hl (by decide) rfl (fun ls hl => ?_)
  refine lv_aload_n hx hb dL_law_790 rfl (lv_at hl 3 rfl) ?_
  refine lv_aload_n hx hb dL_law_791 rfl (lv_at hl 1 rfl) ?_
  refine lv_iload hx hb dL_law_792 (lv_at hl 6 rfl) ?_
  refine lv_iconst (v := 1) hx hb dL_law_794 (by decide) ?_
  refine lv_iadd hx hb dL_law_795 ?_
  refine va_sld hx hb hX hbl hbA hS sx1 dL_law_796 ?_
  refine lv_topi (fun x_6 ex_6 => ?_)
  obtain rfl : s1 = x_6 := (ex_6.trans hs1.symm).symm
  refine lv_aload_n hx hb dL_law_797 rfl (lv_at hl 1 rfl) ?_
  refine lv_iload hx hb dL_law_798 (lv_at hl 6 rfl) ?_
  refine lv_iconst (v := 2) hx hb dL_law_800 (by decide) ?_
  refine lv_iadd hx hb dL_law_801 ?_
  refine va_sld hx hb hX hbl hbA hS sx2 dL_law_802 ?_
  refine lv_topi (fun x_7 ex_7 => ?_)
  obtain rfl : s2 = x_7 := (ex_7.trans hs2.symm).symm
  have hPc := hP.sub (ws' := [(xm, .inr (20, [.int 0, .int 0, .ref kn, .int 0, .int 0, .int 0, .ref ml, .ref cl, .ref rg, .ref tR, .ref (aK 0), .ref (aK 0), .ref fl, .int 0, .int 0, .int 0, .int 0, .int 0, .int 0, .int 0, .null])), (ml, .inr (4, [.int 0, .ref e0, .int 0]))]) [0, 1] rfl
  have hDc := hD.sub (ws' := [(xm, .inr (20, [.int 0, .int 0, .ref kn, .int 0, .int 0, .int 0, .ref ml, .ref cl, .ref rg, .ref tR, .ref (aK 0), .ref (aK 0), .ref fl, .int 0, .int 0, .int 0, .int 0, .int 0, .int 0, .int 0, .null])), (ml, .inr (4, [.int 0, .ref e0, .int 0]))]) [0, 1] (by decide) rfl
  have hKc := hK.sub (tys' := []) [] rfl
  have hFc := va_free (wc := [(xm, .inr (20, [.int 0, .int 0, .ref kn, .int 0, .int 0, .int 0, .ref ml, .ref cl, .ref rg, .ref tR, .ref (aK 0), .ref (aK 0), .ref fl, .int 0, .int 0, .int 0, .int 0, .int 0, .int 0, .int 0, .null])), (ml, .inr (4, [.int 0, .ref e0, .int 0]))]) hD hS hA [0, 1] rfl
  refine va_calli (va_runV (As := [.int s1, .int s2]) (rest := []) ⟨hx, hb, hml, hown, hts⟩ (c_X15_signAt l dC dI xm ml cl fl kn rg tR e0 aK aV s1 s2 H.size) (cwV 2 hts gL_law_X15_signAt rfl rfl rfl (by decide +kernel) ⟨Nat.le_of_ble_eq_true rfl, Nat.le_of_ble_eq_true rfl⟩) (pcV hPc hDc hKc hN (ci := 20) (q0 := 0) rfl rfl) rfl rfl hl.1 rfl (lv_room (Nat.le_of_ble_eq_true rfl)) dL_law_803 ⟨Nat.le_of_ble_eq_true rfl, Nat.le_of_ble_eq_true rfl⟩) hS (fun q _ h => hFc q h) hFc (fun r_9 u t H1 locs ht hvm hw_10 hB hz1 hk1 hS => ?_)
  obtain fs_8 := u
  obtain ⟨hP1, hK1, hD1⟩ := hB
  rw [ht] at hP1
  try dsimp only at hw_10
  obtain ⟨hP, hD⟩ := va_join (wr := [(ou, .inl (cL, 1, .inr (.inl of_3)))]) (w1 := [(xm, .inr (20, fs_8))]) hP hD [0, 1] [2] rfl rfl (by decide) (by decide) hk1 hFc hP1 hD1
  generalize H1 = H at hP hS ⊢
  have hP : va_P (dC, dI) vwCl [(ou, .inl (cL, 1, .inr (.inl of_3))), (xm, .inr (20, fs_8))] H := hP
  have hD : va_D A [(ou, .inl (cL, 1, .inr (.inl of_3))), (xm, .inr (20, fs_8))] := hD
  refine lv_istore (lv' := [(7, .int r_9), (6, .int 1), (0, .ref b), (1, .ref ya), (2, .ref xm), (3, .ref ou), (4, .ref od), (5, .int 0)]) hx hb dL_law_806 hl (by decide) rfl (fun ls hl => ?_)
  refine lv_aload_n hx hb dL_law_808 rfl (lv_at hl 4 rfl) ?_
  have hPc := hP.sub (ws' := [(xm, .inr (20, fs_8))]) [1] rfl
  have hDc := hD.sub (ws' := [(xm, .inr (20, fs_8))]) [1] (by decide) rfl
  have hKc := hK.sub (tys' := []) [] rfl
  have hFc := va_free (wc := [(xm, .inr (20, fs_8))]) hD hS hA [1] rfl
  refine va_calli (va_runV (As := []) (rest := []) ⟨hx, hb, hml, hown, hts⟩ (c_X15_thrown l dC dI xm fs_8 1 hw_10 H.size) (cwV 0 hts gL_law_X15_thrown rfl rfl rfl (by decide +kernel) ⟨Nat.le_of_ble_eq_true rfl, Nat.le_of_ble_eq_true rfl⟩) (pcV hPc hDc hKc hN (ci := 20) (q0 := 0) rfl rfl) rfl rfl hl.1 rfl (lv_room (Nat.le_of_ble_eq_true rfl)) dL_law_809 ⟨Nat.le_of_ble_eq_true rfl, Nat.le_of_ble_eq_true rfl⟩) hS (fun q _ h => hFc q h) hFc (fun r_11 u t H1 locs ht hvm hw_12 hB hz1 hk1 hS => ?_)
  obtain ⟨hP1, hK1, hD1⟩ := hB
  rw [ht] at hP1
  try dsimp only at hw_12
  obtain ⟨hP, hD⟩ := va_join (wr := [(ou, .inl (cL, 1, .inr (.inl of_3)))]) (w1 := []) hP hD [1] [0] rfl rfl (by decide) (by decide) hk1 hFc hP1 hD1
  generalize H1 = H at hP hS ⊢
  have hP : va_P (dC, dI) vwCl [(ou, .inl (cL, 1, .inr (.inl of_3)))] H := hP
  have hD : va_D A [(ou, .inl (cL, 1, .inr (.inl of_3)))] := hD
  obtain rfl : r_11 = 1 := hw_12
  refine lv_iload hx hb dL_law_812 (lv_at hl 1 rfl) ?_
  refine lv_icmp_eq (tgt := 819) hx hb dL_law_814 (by decide) (fun c814_13 => ?_) (fun c814_13 => ?_)
  · refine lv_iload hx hb dL_law_819 (lv_at hl 1 rfl) ?_
    refine lv_if_ne (tgt := 836) hx hb dL_law_821 (by decide) (fun c821_14 => ?_) (fun c821_14 => ?_)
    · refine lv_goto (tgt := 2778) hx hb dL_law_836 (by decide) ?_
      refine W.widen (k := 600006) (n := 7302039) (Nat.le_of_ble_eq_true rfl) (Nat.le_of_ble_eq_true rfl) ?_
      exact law_end hx hb hr hml hX hbl hlocks hbA hAo hS (lv_sub hl [2, 7] rfl)
    · exact absurd c821_14 (by decide)
  · exact (c814_13 (by decide)).elim

set_option maxHeartbeats 8000000 in
set_option maxRecDepth 100000 in
/-- the law: law_8_print -/
theorem law_8_print {p : Program} {e : Env} {s : State} {m : MethodId} {below : List Frame} {meth : Method} {c : Code} {l : Launch} {b : Nat} {xs : Nat → Int32} (hx : p.tables.exec = Jvm.exec) (hb : c.code = cL_law) (hr : meth.sig.returnType = ret) (hml : c.maxLocals = 9) (hfl : l.stackTraces = false) (hown : s.vm.findClass RL = some m.cls) (hts : ∀ w ∈ wsL_law, w.before #[Value.ref b] s = true) (hX : va_X b 7 xs s s.heap) (hbl : b < s.heap.size) (hlocks : meth.locks = false) {A : Nat → Prop} (hbA : ¬ A b) (hAo : ∀ q, A q → s.heap.size ≤ q) (hA : ∀ q : Nat, s.heap.size ≤ q → A q) (dC : Nat → ClassId) (dI : Nat → Nat → Nat) (hN : nwA s) (e0 : Nat) (aK aV : Nat → Nat) (hZ : zX A s s.heap ∧ zM e0 aK aV A s s.heap) (ya ms ju rj tj ro rn tn rh th ca sa da xa wb z1 z2 jt z3 br z4 z5 z6 lk z7 z8 li bm l2 z9 bo h2 mm l1 z10 oo h1 ct cr cu cg cp co tg ts tr tk te fw fo fu xm ml cl fl rg tR ou od kn : Nat) (cI cM cS cL cD cB : ClassId) {H : Heap} {locs : List Loc} (hP : va_P (dC, dI) vwCl [(ya, .inr (16, [.ref ms, .int 0, .ref ju, .ref li, .ref ct, .ref tg, .ref fw])), (ou, .inl (cL, 1, .inr (.inl (fun _ => 0)))), (xm, .inr (20, [.int 0, .int 0, .ref kn, .int 0, .int 0, .int 0, .ref ml, .ref cl, .ref rg, .ref tR, .ref (aK 0), .ref (aK 0), .ref fl, .int 0, .int 0, .int 0, .int 0, .int 0, .int 0, .int 0, .null])), (ml, .inr (4, [.int 0, .ref e0, .int 0]))] H) (hD : va_D A [(ya, .inr (16, [.ref ms, .int 0, .ref ju, .ref li, .ref ct, .ref tg, .ref fw])), (ou, .inl (cL, 1, .inr (.inl (fun _ => 0)))), (xm, .inr (20, [.int 0, .int 0, .ref kn, .int 0, .int 0, .int 0, .ref ml, .ref cl, .ref rg, .ref tR, .ref (aK 0), .ref (aK 0), .ref fl, .int 0, .int 0, .int 0, .int 0, .int 0, .int 0, .int 0, .null])), (ml, .inr (4, [.int 0, .ref e0, .int 0]))]) (hK : va_K (dC, dI) vwCl [(cL, .long)] s) (hS : va_S A s.heap H locs) {ls : Array Slot} (hl : lv_has ls 9 [(0, .ref b), (1, .ref ya), (2, .ref xm), (3, .ref ou), (4, .ref od), (5, .int 0)]) : W p l e room_1 s m #[Value.ref b] below meth c H locs 200 60000 (lw_Z below #[Value.ref b] s) (F0 m 839 ls []) := by
  obtain ⟨s1, hs1⟩ : ∃ z, z = xs ((0 : Int32) + 1).toNatClampNeg := ⟨_, rfl⟩
  obtain ⟨s2, hs2⟩ : ∃ z, z = xs ((0 : Int32) + 2).toNatClampNeg := ⟨_, rfl⟩
  obtain ⟨s3, hs3⟩ : ∃ z, z = xs ((0 : Int32) + 3).toNatClampNeg := ⟨_, rfl⟩
  obtain ⟨s4, hs4⟩ : ∃ z, z = xs ((0 : Int32) + 4).toNatClampNeg := ⟨_, rfl⟩
  obtain ⟨s5, hs5⟩ : ∃ z, z = xs ((0 : Int32) + 5).toNatClampNeg := ⟨_, rfl⟩
  obtain ⟨s6, hs6⟩ : ∃ z, z = xs ((0 : Int32) + 6).toNatClampNeg := ⟨_, rfl⟩
  obtain ⟨k1, hk1⟩ : ∃ z, z = (s1.toUInt32 % 65536).toInt32 := ⟨_, rfl⟩
  obtain ⟨k2, hk2⟩ : ∃ z, z = (s2.toUInt32 % 65536).toInt32 := ⟨_, rfl⟩
  obtain ⟨k3, hk3⟩ : ∃ z, z = (s3.toUInt32 % 65536).toInt32 := ⟨_, rfl⟩
  obtain ⟨k4, hk4⟩ : ∃ z, z = (s4.toUInt32 % 65536).toInt32 := ⟨_, rfl⟩
  obtain ⟨k5, hk5⟩ : ∃ z, z = (s5.toUInt32 % 65536).toInt32 := ⟨_, rfl⟩
  obtain ⟨k6, hk6⟩ : ∃ z, z = (s6.toUInt32 % 65536).toInt32 := ⟨_, rfl⟩
  refine lv_aload_n hx hb dL_law_839 rfl (lv_at hl 1 rfl) ?_
  refine lv_aload_n hx hb dL_law_840 rfl (lv_at hl 0 rfl) ?_
  refine lv_iload hx hb dL_law_841 (lv_at hl 5 rfl) ?_
  refine lv_iconst (v := 1) hx hb dL_law_843 (by decide) ?_
  refine lv_iadd hx hb dL_law_844 ?_
  refine va_sld hx hb hX hbl hbA hS sx1 dL_law_845 ?_
  refine lv_topi (fun x_1 ex_1 => ?_)
  obtain rfl : s1 = x_1 := (ex_1.trans hs1.symm).symm
  refine lv_aload_n hx hb dL_law_846 rfl (lv_at hl 3 rfl) ?_
  have hPc := hP.sub (ws' := [(ya, .inr (16, [.ref ms, .int 0, .ref ju, .ref li, .ref ct, .ref tg, .ref fw])), (ou, .inl (cL, 1, .inr (.inl (fun _ => 0))))]) [0, 1] rfl
  have hDc := hD.sub (ws' := [(ya, .inr (16, [.ref ms, .int 0, .ref ju, .ref li, .ref ct, .ref tg, .ref fw])), (ou, .inl (cL, 1, .inr (.inl (fun _ => 0))))]) [0, 1] (by decide) rfl
  have hKc := hK.sub (tys' := [(cL, .long)]) [0] rfl
  have hFc := va_free (wc := [(ya, .inr (16, [.ref ms, .int 0, .ref ju, .ref li, .ref ct, .ref tg, .ref fw])), (ou, .inl (cL, 1, .inr (.inl (fun _ => 0))))]) hD hS hA [0, 1] rfl
  refine vx_calli (vx_runSX (As := [.ref ya, .int s1, .ref ou]) (rest := []) ⟨hx, hb, hml, hown, hts⟩ (c_L_print l hfl dC dI ya ms ju li ct tg fw s1 cL ou (fun _ => 0) H.size) (vx_cwSW 3 hts gL_law_L_print rfl rfl rfl (by decide +kernel) ⟨Nat.le_of_ble_eq_true rfl, Nat.le_of_ble_eq_true rfl⟩) (pcSz (zX_ok) hPc hDc hKc hN hZ.1 hS hFc) rfl rfl hl.1 rfl (lv_room (Nat.le_of_ble_eq_true rfl)) dL_law_847 ⟨Nat.le_of_ble_eq_true rfl, Nat.le_of_ble_eq_true rfl⟩) hS (fun q _ h => hFc q h) hFc (fun q _ h => hFc q h) (fun E9 ce9 q9 u9 t9 H9 locs9 ht9 hvm9 hp9 hE9 hz9 hk9 hS9 hc9 hv9 hcl9 => hE9.elim) (fun r_3 u t H1 locs ht hvm hw_4 hB hz1 hk1 hS => ?_)
  obtain of_2 := u
  obtain ⟨hP1, hK1, hD1⟩ := hB
  rw [ht] at hP1
  try dsimp only at hw_4
  obtain ⟨hP, hD⟩ := va_join (wr := [(xm, .inr (20, [.int 0, .int 0, .ref kn, .int 0, .int 0, .int 0, .ref ml, .ref cl, .ref rg, .ref tR, .ref (aK 0), .ref (aK 0), .ref fl, .int 0, .int 0, .int 0, .int 0, .int 0, .int 0, .int 0, .null])), (ml, .inr (4, [.int 0, .ref e0, .int 0]))]) (w1 := [(ou, .inl (cL, 1, .inr (.inl of_2)))]) hP hD [0, 1] [2, 3] rfl rfl (by decide) (by decide) hk1 hFc hP1 hD1
  generalize H1 = H at hP hS ⊢
  have hP : va_P (dC, dI) vwCl [(xm, .inr (20, [.int 0, .int 0, .ref kn, .int 0, .int 0, .int 0, .ref ml, .ref cl, .ref rg, .ref tR, .ref (aK 0), .ref (aK 0), .ref fl, .int 0, .int 0, .int 0, .int 0, .int 0, .int 0, .int 0, .null])), (ml, .inr (4, [.int 0, .ref e0, .int 0])), (ou, .inl (cL, 1, .inr (.inl of_2)))] H := hP
  have hD : va_D A [(xm, .inr (20, [.int 0, .int 0, .ref kn, .int 0, .int 0, .int 0, .ref ml, .ref cl, .ref rg, .ref tR, .ref (aK 0), .ref (aK 0), .ref fl, .int 0, .int 0, .int 0, .int 0, .int 0, .int 0, .int 0, .null])), (ml, .inr (4, [.int 0, .ref e0, .int 0])), (ou, .inl (cL, 1, .inr (.inl of_2)))] := hD
  refine W.widen (k := 201) (n := 60006) (Nat.le_of_ble_eq_true rfl) (Nat.le_of_ble_eq_true rfl) ?_
  obtain rfl : r_3 = 1 := hw_4
  refine lv_istore (lv' := [(6, .int 1), (0, .ref b), (1, .ref ya), (2, .ref xm), (3, .ref ou), (4, .ref od), (5, .int 0)]) hx hb dL_law_850 hl (by decide) rfl (fun ls hl => ?_)
  refine lv_aload_n hx hb dL_law_852 rfl (lv_at hl 3 rfl) ?_
  refine lv_aload_n hx hb dL_law_853 rfl (lv_at hl 1 rfl) ?_
  refine lv_iload hx hb dL_law_854 (lv_at hl 6 rfl) ?_
  refine lv_iconst (v := 1) hx hb dL_law_856 (by decide) ?_
  refine lv_iadd hx hb dL_law_857 ?_
  refine va_sld hx hb hX hbl hbA hS sx1 dL_law_858 ?_
  refine lv_topi (fun x_5 ex_5 => ?_)
  obtain rfl : s1 = x_5 := (ex_5.trans hs1.symm).symm
  have hPc := hP.sub (ws' := [(xm, .inr (20, [.int 0, .int 0, .ref kn, .int 0, .int 0, .int 0, .ref ml, .ref cl, .ref rg, .ref tR, .ref (aK 0), .ref (aK 0), .ref fl, .int 0, .int 0, .int 0, .int 0, .int 0, .int 0, .int 0, .null])), (ml, .inr (4, [.int 0, .ref e0, .int 0]))]) [0, 1] rfl
  have hDc := hD.sub (ws' := [(xm, .inr (20, [.int 0, .int 0, .ref kn, .int 0, .int 0, .int 0, .ref ml, .ref cl, .ref rg, .ref tR, .ref (aK 0), .ref (aK 0), .ref fl, .int 0, .int 0, .int 0, .int 0, .int 0, .int 0, .int 0, .null])), (ml, .inr (4, [.int 0, .ref e0, .int 0]))]) [0, 1] (by decide) rfl
  have hKc := hK.sub (tys' := []) [] rfl
  have hFc := va_free (wc := [(xm, .inr (20, [.int 0, .int 0, .ref kn, .int 0, .int 0, .int 0, .ref ml, .ref cl, .ref rg, .ref tR, .ref (aK 0), .ref (aK 0), .ref fl, .int 0, .int 0, .int 0, .int 0, .int 0, .int 0, .int 0, .null])), (ml, .inr (4, [.int 0, .ref e0, .int 0]))]) hD hS hA [0, 1] rfl
  refine va_calll (va_runV (As := [.int s1]) (rest := []) ⟨hx, hb, hml, hown, hts⟩ (c_X15_print l dC dI xm ml cl fl kn rg tR e0 aK aV s1 H.size) (cwV 1 hts gL_law_X15_print rfl rfl rfl (by decide +kernel) ⟨Nat.le_of_ble_eq_true rfl, Nat.le_of_ble_eq_true rfl⟩) (pcV hPc hDc hKc hN (ci := 20) (q0 := 0) rfl rfl) rfl rfl hl.1 rfl (lv_room (Nat.le_of_ble_eq_true rfl)) dL_law_859 ⟨Nat.le_of_ble_eq_true rfl, Nat.le_of_ble_eq_true rfl⟩) hS (fun q _ h => hFc q h) hFc (fun r_7 u t H1 locs ht hvm hw_8 hB hz1 hk1 hS => ?_)
  obtain fs_6 := u
  obtain ⟨hP1, hK1, hD1⟩ := hB
  rw [ht] at hP1
  try dsimp only at hw_8
  obtain ⟨hP, hD⟩ := va_join (wr := [(ou, .inl (cL, 1, .inr (.inl of_2)))]) (w1 := [(xm, .inr (20, fs_6))]) hP hD [0, 1] [2] rfl rfl (by decide) (by decide) hk1 hFc hP1 hD1
  generalize H1 = H at hP hS ⊢
  have hP : va_P (dC, dI) vwCl [(ou, .inl (cL, 1, .inr (.inl of_2))), (xm, .inr (20, fs_6))] H := hP
  have hD : va_D A [(ou, .inl (cL, 1, .inr (.inl of_2))), (xm, .inr (20, fs_6))] := hD
  refine lv_lstore (lv' := [(7, .long r_7), (6, .int 1), (0, .ref b), (1, .ref ya), (2, .ref xm), (3, .ref ou), (4, .ref od), (5, .int 0)]) hx hb dL_law_862 hl (by decide) rfl (fun ls hl => ?_)
  refine lv_aload_n hx hb dL_law_864 rfl (lv_at hl 4 rfl) ?_
  have hPc := hP.sub (ws' := [(xm, .inr (20, fs_6))]) [1] rfl
  have hDc := hD.sub (ws' := [(xm, .inr (20, fs_6))]) [1] (by decide) rfl
  have hKc := hK.sub (tys' := []) [] rfl
  have hFc := va_free (wc := [(xm, .inr (20, fs_6))]) hD hS hA [1] rfl
  refine va_calli (va_runV (As := []) (rest := []) ⟨hx, hb, hml, hown, hts⟩ (c_X15_thrown l dC dI xm fs_6 1 hw_8 H.size) (cwV 0 hts gL_law_X15_thrown rfl rfl rfl (by decide +kernel) ⟨Nat.le_of_ble_eq_true rfl, Nat.le_of_ble_eq_true rfl⟩) (pcV hPc hDc hKc hN (ci := 20) (q0 := 0) rfl rfl) rfl rfl hl.1 rfl (lv_room (Nat.le_of_ble_eq_true rfl)) dL_law_865 ⟨Nat.le_of_ble_eq_true rfl, Nat.le_of_ble_eq_true rfl⟩) hS (fun q _ h => hFc q h) hFc (fun r_9 u t H1 locs ht hvm hw_10 hB hz1 hk1 hS => ?_)
  obtain ⟨hP1, hK1, hD1⟩ := hB
  rw [ht] at hP1
  try dsimp only at hw_10
  obtain ⟨hP, hD⟩ := va_join (wr := [(ou, .inl (cL, 1, .inr (.inl of_2)))]) (w1 := []) hP hD [1] [0] rfl rfl (by decide) (by decide) hk1 hFc hP1 hD1
  generalize H1 = H at hP hS ⊢
  have hP : va_P (dC, dI) vwCl [(ou, .inl (cL, 1, .inr (.inl of_2)))] H := hP
  have hD : va_D A [(ou, .inl (cL, 1, .inr (.inl of_2)))] := hD
  obtain rfl : r_9 = 1 := hw_10
  refine lv_iload hx hb dL_law_868 (lv_at hl 1 rfl) ?_
  refine lv_icmp_eq (tgt := 875) hx hb dL_law_870 (by decide) (fun c870_11 => ?_) (fun c870_11 => ?_)
  · refine lv_iload hx hb dL_law_875 (lv_at hl 1 rfl) ?_
    refine lv_if_ne (tgt := 891) hx hb dL_law_877 (by decide) (fun c877_12 => ?_) (fun c877_12 => ?_)
    · refine lv_goto (tgt := 2778) hx hb dL_law_891 (by decide) ?_
      refine W.widen (k := 600006) (n := 7302039) (Nat.le_of_ble_eq_true rfl) (Nat.le_of_ble_eq_true rfl) ?_
      exact law_end hx hb hr hml hX hbl hlocks hbA hAo hS (lv_sub hl [2, 7] rfl)
    · exact absurd c877_12 (by decide)
  · exact (c870_11 (by decide)).elim

set_option maxHeartbeats 8000000 in
set_option maxRecDepth 100000 in
/-- the law: law_9_printByRuns -/
theorem law_9_printByRuns {p : Program} {e : Env} {s : State} {m : MethodId} {below : List Frame} {meth : Method} {c : Code} {l : Launch} {b : Nat} {xs : Nat → Int32} (hx : p.tables.exec = Jvm.exec) (hb : c.code = cL_law) (hr : meth.sig.returnType = ret) (hml : c.maxLocals = 9) (hfl : l.stackTraces = false) (hown : s.vm.findClass RL = some m.cls) (hts : ∀ w ∈ wsL_law, w.before #[Value.ref b] s = true) (hX : va_X b 7 xs s s.heap) (hbl : b < s.heap.size) (hlocks : meth.locks = false) {A : Nat → Prop} (hbA : ¬ A b) (hAo : ∀ q, A q → s.heap.size ≤ q) (hA : ∀ q : Nat, s.heap.size ≤ q → A q) (dC : Nat → ClassId) (dI : Nat → Nat → Nat) (hN : nwA s) (e0 : Nat) (aK aV : Nat → Nat) (hZ : zX A s s.heap ∧ zM e0 aK aV A s s.heap) (ya ms ju rj tj ro rn tn rh th ca sa da xa wb z1 z2 jt z3 br z4 z5 z6 lk z7 z8 li bm l2 z9 bo h2 mm l1 z10 oo h1 ct cr cu cg cp co tg ts tr tk te fw fo fu xm ml cl fl rg tR ou od kn : Nat) (cI cM cS cL cD cB : ClassId) {H : Heap} {locs : List Loc} (hP : va_P (dC, dI) vwCl [(ya, .inr (16, [.ref ms, .int 0, .ref ju, .ref li, .ref ct, .ref tg, .ref fw])), (ou, .inl (cL, 1, .inr (.inl (fun _ => 0)))), (xm, .inr (20, [.int 0, .int 0, .ref kn, .int 0, .int 0, .int 0, .ref ml, .ref cl, .ref rg, .ref tR, .ref (aK 0), .ref (aK 0), .ref fl, .int 0, .int 0, .int 0, .int 0, .int 0, .int 0, .int 0, .null])), (ml, .inr (4, [.int 0, .ref e0, .int 0]))] H) (hD : va_D A [(ya, .inr (16, [.ref ms, .int 0, .ref ju, .ref li, .ref ct, .ref tg, .ref fw])), (ou, .inl (cL, 1, .inr (.inl (fun _ => 0)))), (xm, .inr (20, [.int 0, .int 0, .ref kn, .int 0, .int 0, .int 0, .ref ml, .ref cl, .ref rg, .ref tR, .ref (aK 0), .ref (aK 0), .ref fl, .int 0, .int 0, .int 0, .int 0, .int 0, .int 0, .int 0, .null])), (ml, .inr (4, [.int 0, .ref e0, .int 0]))]) (hK : va_K (dC, dI) vwCl [(cL, .long)] s) (hS : va_S A s.heap H locs) {ls : Array Slot} (hl : lv_has ls 9 [(0, .ref b), (1, .ref ya), (2, .ref xm), (3, .ref ou), (4, .ref od), (5, .int 0)]) : W p l e room_1 s m #[Value.ref b] below meth c H locs 200 60000 (lw_Z below #[Value.ref b] s) (F0 m 894 ls []) := by
  obtain ⟨s1, hs1⟩ : ∃ z, z = xs ((0 : Int32) + 1).toNatClampNeg := ⟨_, rfl⟩
  obtain ⟨s2, hs2⟩ : ∃ z, z = xs ((0 : Int32) + 2).toNatClampNeg := ⟨_, rfl⟩
  obtain ⟨s3, hs3⟩ : ∃ z, z = xs ((0 : Int32) + 3).toNatClampNeg := ⟨_, rfl⟩
  obtain ⟨s4, hs4⟩ : ∃ z, z = xs ((0 : Int32) + 4).toNatClampNeg := ⟨_, rfl⟩
  obtain ⟨s5, hs5⟩ : ∃ z, z = xs ((0 : Int32) + 5).toNatClampNeg := ⟨_, rfl⟩
  obtain ⟨s6, hs6⟩ : ∃ z, z = xs ((0 : Int32) + 6).toNatClampNeg := ⟨_, rfl⟩
  obtain ⟨k1, hk1⟩ : ∃ z, z = (s1.toUInt32 % 65536).toInt32 := ⟨_, rfl⟩
  obtain ⟨k2, hk2⟩ : ∃ z, z = (s2.toUInt32 % 65536).toInt32 := ⟨_, rfl⟩
  obtain ⟨k3, hk3⟩ : ∃ z, z = (s3.toUInt32 % 65536).toInt32 := ⟨_, rfl⟩
  obtain ⟨k4, hk4⟩ : ∃ z, z = (s4.toUInt32 % 65536).toInt32 := ⟨_, rfl⟩
  obtain ⟨k5, hk5⟩ : ∃ z, z = (s5.toUInt32 % 65536).toInt32 := ⟨_, rfl⟩
  obtain ⟨k6, hk6⟩ : ∃ z, z = (s6.toUInt32 % 65536).toInt32 := ⟨_, rfl⟩
  refine lv_aload_n hx hb dL_law_894 rfl (lv_at hl 1 rfl) ?_
  refine lv_aload_n hx hb dL_law_895 rfl (lv_at hl 0 rfl) ?_
  refine lv_iload hx hb dL_law_896 (lv_at hl 5 rfl) ?_
  refine lv_iconst (v := 1) hx hb dL_law_898 (by decide) ?_
  refine lv_iadd hx hb dL_law_899 ?_
  refine va_sld hx hb hX hbl hbA hS sx1 dL_law_900 ?_
  refine lv_topi (fun x_1 ex_1 => ?_)
  obtain rfl : s1 = x_1 := (ex_1.trans hs1.symm).symm
  refine lv_aload_n hx hb dL_law_901 rfl (lv_at hl 0 rfl) ?_
  refine lv_iload hx hb dL_law_902 (lv_at hl 5 rfl) ?_
  refine lv_iconst (v := 2) hx hb dL_law_904 (by decide) ?_
  refine lv_iadd hx hb dL_law_905 ?_
  refine va_sld hx hb hX hbl hbA hS sx2 dL_law_906 ?_
  refine lv_topi (fun x_2 ex_2 => ?_)
  obtain rfl : s2 = x_2 := (ex_2.trans hs2.symm).symm
  refine lv_aload_n hx hb dL_law_907 rfl (lv_at hl 3 rfl) ?_
  have hPc := hP.sub (ws' := [(ya, .inr (16, [.ref ms, .int 0, .ref ju, .ref li, .ref ct, .ref tg, .ref fw])), (ou, .inl (cL, 1, .inr (.inl (fun _ => 0))))]) [0, 1] rfl
  have hDc := hD.sub (ws' := [(ya, .inr (16, [.ref ms, .int 0, .ref ju, .ref li, .ref ct, .ref tg, .ref fw])), (ou, .inl (cL, 1, .inr (.inl (fun _ => 0))))]) [0, 1] (by decide) rfl
  have hKc := hK.sub (tys' := [(cL, .long)]) [0] rfl
  have hFc := va_free (wc := [(ya, .inr (16, [.ref ms, .int 0, .ref ju, .ref li, .ref ct, .ref tg, .ref fw])), (ou, .inl (cL, 1, .inr (.inl (fun _ => 0))))]) hD hS hA [0, 1] rfl
  refine vx_calli (vx_runSX (As := [.ref ya, .int s1, .int s2, .ref ou]) (rest := []) ⟨hx, hb, hml, hown, hts⟩ (c_L_printByRuns l hfl dC dI ya ms ju li ct tg fw s1 s2 cL ou (fun _ => 0) H.size) (vx_cwSW 4 hts gL_law_L_printByRuns rfl rfl rfl (by decide +kernel) ⟨Nat.le_of_ble_eq_true rfl, Nat.le_of_ble_eq_true rfl⟩) (pcSz (zX_ok) hPc hDc hKc hN hZ.1 hS hFc) rfl rfl hl.1 rfl (lv_room (Nat.le_of_ble_eq_true rfl)) dL_law_908 ⟨Nat.le_of_ble_eq_true rfl, Nat.le_of_ble_eq_true rfl⟩) hS (fun q _ h => hFc q h) hFc (fun q _ h => hFc q h) (fun E9 ce9 q9 u9 t9 H9 locs9 ht9 hvm9 hp9 hE9 hz9 hk9 hS9 hc9 hv9 hcl9 => hE9.elim) (fun r_4 u t H1 locs ht hvm hw_5 hB hz1 hk1 hS => ?_)
  obtain of_3 := u
  obtain ⟨hP1, hK1, hD1⟩ := hB
  rw [ht] at hP1
  try dsimp only at hw_5
  obtain ⟨hP, hD⟩ := va_join (wr := [(xm, .inr (20, [.int 0, .int 0, .ref kn, .int 0, .int 0, .int 0, .ref ml, .ref cl, .ref rg, .ref tR, .ref (aK 0), .ref (aK 0), .ref fl, .int 0, .int 0, .int 0, .int 0, .int 0, .int 0, .int 0, .null])), (ml, .inr (4, [.int 0, .ref e0, .int 0]))]) (w1 := [(ou, .inl (cL, 1, .inr (.inl of_3)))]) hP hD [0, 1] [2, 3] rfl rfl (by decide) (by decide) hk1 hFc hP1 hD1
  generalize H1 = H at hP hS ⊢
  have hP : va_P (dC, dI) vwCl [(xm, .inr (20, [.int 0, .int 0, .ref kn, .int 0, .int 0, .int 0, .ref ml, .ref cl, .ref rg, .ref tR, .ref (aK 0), .ref (aK 0), .ref fl, .int 0, .int 0, .int 0, .int 0, .int 0, .int 0, .int 0, .null])), (ml, .inr (4, [.int 0, .ref e0, .int 0])), (ou, .inl (cL, 1, .inr (.inl of_3)))] H := hP
  have hD : va_D A [(xm, .inr (20, [.int 0, .int 0, .ref kn, .int 0, .int 0, .int 0, .ref ml, .ref cl, .ref rg, .ref tR, .ref (aK 0), .ref (aK 0), .ref fl, .int 0, .int 0, .int 0, .int 0, .int 0, .int 0, .int 0, .null])), (ml, .inr (4, [.int 0, .ref e0, .int 0])), (ou, .inl (cL, 1, .inr (.inl of_3)))] := hD
  refine W.widen (k := 201) (n := 60006) (Nat.le_of_ble_eq_true rfl) (Nat.le_of_ble_eq_true rfl) ?_
  obtain rfl : r_4 = 1 := hw_5
  refine lv_istore (lv' := [(6, .int 1), (0, .ref b), (1, .ref ya), (2, .ref xm), (3, .ref ou), (4, .ref od), (5, .int 0)]) hx hb dL_law_911 hl (by decide) rfl (fun ls hl => ?_)
  refine lv_aload_n hx hb dL_law_913 rfl (lv_at hl 3 rfl) ?_
  refine lv_aload_n hx hb dL_law_914 rfl (lv_at hl 1 rfl) ?_
  refine lv_iload hx hb dL_law_915 (lv_at hl 6 rfl) ?_
  refine lv_iconst (v := 1) hx hb dL_law_917 (by decide) ?_
  refine lv_iadd hx hb dL_law_918 ?_
  refine va_sld hx hb hX hbl hbA hS sx1 dL_law_919 ?_
  refine lv_topi (fun x_6 ex_6 => ?_)
  obtain rfl : s1 = x_6 := (ex_6.trans hs1.symm).symm
  refine lv_aload_n hx hb dL_law_920 rfl (lv_at hl 1 rfl) ?_
  refine lv_iload hx hb dL_law_921 (lv_at hl 6 rfl) ?_
  refine lv_iconst (v := 2) hx hb dL_law_923 (by decide) ?_
  refine lv_iadd hx hb dL_law_924 ?_
  refine va_sld hx hb hX hbl hbA hS sx2 dL_law_925 ?_
  refine lv_topi (fun x_7 ex_7 => ?_)
  obtain rfl : s2 = x_7 := (ex_7.trans hs2.symm).symm
  have hPc := hP.sub (ws' := [(xm, .inr (20, [.int 0, .int 0, .ref kn, .int 0, .int 0, .int 0, .ref ml, .ref cl, .ref rg, .ref tR, .ref (aK 0), .ref (aK 0), .ref fl, .int 0, .int 0, .int 0, .int 0, .int 0, .int 0, .int 0, .null])), (ml, .inr (4, [.int 0, .ref e0, .int 0]))]) [0, 1] rfl
  have hDc := hD.sub (ws' := [(xm, .inr (20, [.int 0, .int 0, .ref kn, .int 0, .int 0, .int 0, .ref ml, .ref cl, .ref rg, .ref tR, .ref (aK 0), .ref (aK 0), .ref fl, .int 0, .int 0, .int 0, .int 0, .int 0, .int 0, .int 0, .null])), (ml, .inr (4, [.int 0, .ref e0, .int 0]))]) [0, 1] (by decide) rfl
  have hKc := hK.sub (tys' := []) [] rfl
  have hFc := va_free (wc := [(xm, .inr (20, [.int 0, .int 0, .ref kn, .int 0, .int 0, .int 0, .ref ml, .ref cl, .ref rg, .ref tR, .ref (aK 0), .ref (aK 0), .ref fl, .int 0, .int 0, .int 0, .int 0, .int 0, .int 0, .int 0, .null])), (ml, .inr (4, [.int 0, .ref e0, .int 0]))]) hD hS hA [0, 1] rfl
  refine va_calll (va_runV (As := [.int s1, .int s2]) (rest := []) ⟨hx, hb, hml, hown, hts⟩ (c_X15_printByRuns l dC dI xm ml cl fl kn rg tR e0 aK aV s1 s2 H.size) (cwV 2 hts gL_law_X15_printByRuns rfl rfl rfl (by decide +kernel) ⟨Nat.le_of_ble_eq_true rfl, Nat.le_of_ble_eq_true rfl⟩) (pcV hPc hDc hKc hN (ci := 20) (q0 := 0) rfl rfl) rfl rfl hl.1 rfl (lv_room (Nat.le_of_ble_eq_true rfl)) dL_law_926 ⟨Nat.le_of_ble_eq_true rfl, Nat.le_of_ble_eq_true rfl⟩) hS (fun q _ h => hFc q h) hFc (fun r_9 u t H1 locs ht hvm hw_10 hB hz1 hk1 hS => ?_)
  obtain fs_8 := u
  obtain ⟨hP1, hK1, hD1⟩ := hB
  rw [ht] at hP1
  try dsimp only at hw_10
  obtain ⟨hP, hD⟩ := va_join (wr := [(ou, .inl (cL, 1, .inr (.inl of_3)))]) (w1 := [(xm, .inr (20, fs_8))]) hP hD [0, 1] [2] rfl rfl (by decide) (by decide) hk1 hFc hP1 hD1
  generalize H1 = H at hP hS ⊢
  have hP : va_P (dC, dI) vwCl [(ou, .inl (cL, 1, .inr (.inl of_3))), (xm, .inr (20, fs_8))] H := hP
  have hD : va_D A [(ou, .inl (cL, 1, .inr (.inl of_3))), (xm, .inr (20, fs_8))] := hD
  refine lv_lstore (lv' := [(7, .long r_9), (6, .int 1), (0, .ref b), (1, .ref ya), (2, .ref xm), (3, .ref ou), (4, .ref od), (5, .int 0)]) hx hb dL_law_929 hl (by decide) rfl (fun ls hl => ?_)
  refine lv_aload_n hx hb dL_law_931 rfl (lv_at hl 4 rfl) ?_
  have hPc := hP.sub (ws' := [(xm, .inr (20, fs_8))]) [1] rfl
  have hDc := hD.sub (ws' := [(xm, .inr (20, fs_8))]) [1] (by decide) rfl
  have hKc := hK.sub (tys' := []) [] rfl
  have hFc := va_free (wc := [(xm, .inr (20, fs_8))]) hD hS hA [1] rfl
  refine va_calli (va_runV (As := []) (rest := []) ⟨hx, hb, hml, hown, hts⟩ (c_X15_thrown l dC dI xm fs_8 1 hw_10 H.size) (cwV 0 hts gL_law_X15_thrown rfl rfl rfl (by decide +kernel) ⟨Nat.le_of_ble_eq_true rfl, Nat.le_of_ble_eq_true rfl⟩) (pcV hPc hDc hKc hN (ci := 20) (q0 := 0) rfl rfl) rfl rfl hl.1 rfl (lv_room (Nat.le_of_ble_eq_true rfl)) dL_law_932 ⟨Nat.le_of_ble_eq_true rfl, Nat.le_of_ble_eq_true rfl⟩) hS (fun q _ h => hFc q h) hFc (fun r_11 u t H1 locs ht hvm hw_12 hB hz1 hk1 hS => ?_)
  obtain ⟨hP1, hK1, hD1⟩ := hB
  rw [ht] at hP1
  try dsimp only at hw_12
  obtain ⟨hP, hD⟩ := va_join (wr := [(ou, .inl (cL, 1, .inr (.inl of_3)))]) (w1 := []) hP hD [1] [0] rfl rfl (by decide) (by decide) hk1 hFc hP1 hD1
  generalize H1 = H at hP hS ⊢
  have hP : va_P (dC, dI) vwCl [(ou, .inl (cL, 1, .inr (.inl of_3)))] H := hP
  have hD : va_D A [(ou, .inl (cL, 1, .inr (.inl of_3)))] := hD
  obtain rfl : r_11 = 1 := hw_12
  refine lv_iload hx hb dL_law_935 (lv_at hl 1 rfl) ?_
  refine lv_icmp_eq (tgt := 942) hx hb dL_law_937 (by decide) (fun c937_13 => ?_) (fun c937_13 => ?_)
  · refine lv_iload hx hb dL_law_942 (lv_at hl 1 rfl) ?_
    refine lv_if_ne (tgt := 958) hx hb dL_law_944 (by decide) (fun c944_14 => ?_) (fun c944_14 => ?_)
    · refine lv_goto (tgt := 2778) hx hb dL_law_958 (by decide) ?_
      refine W.widen (k := 600006) (n := 7302039) (Nat.le_of_ble_eq_true rfl) (Nat.le_of_ble_eq_true rfl) ?_
      exact law_end hx hb hr hml hX hbl hlocks hbA hAo hS (lv_sub hl [2, 7] rfl)
    · exact absurd c944_14 (by decide)
  · exact (c937_13 (by decide)).elim

set_option maxHeartbeats 8000000 in
set_option maxRecDepth 100000 in
/-- the law: law_10_runsOf -/
theorem law_10_runsOf {p : Program} {e : Env} {s : State} {m : MethodId} {below : List Frame} {meth : Method} {c : Code} {l : Launch} {b : Nat} {xs : Nat → Int32} (hx : p.tables.exec = Jvm.exec) (hb : c.code = cL_law) (hr : meth.sig.returnType = ret) (hml : c.maxLocals = 9) (hfl : l.stackTraces = false) (hown : s.vm.findClass RL = some m.cls) (hts : ∀ w ∈ wsL_law, w.before #[Value.ref b] s = true) (hX : va_X b 7 xs s s.heap) (hbl : b < s.heap.size) (hlocks : meth.locks = false) {A : Nat → Prop} (hbA : ¬ A b) (hAo : ∀ q, A q → s.heap.size ≤ q) (hA : ∀ q : Nat, s.heap.size ≤ q → A q) (dC : Nat → ClassId) (dI : Nat → Nat → Nat) (hN : nwA s) (e0 : Nat) (aK aV : Nat → Nat) (hZ : zX A s s.heap ∧ zM e0 aK aV A s s.heap) (ya ms ju rj tj ro rn tn rh th ca sa da xa wb z1 z2 jt z3 br z4 z5 z6 lk z7 z8 li bm l2 z9 bo h2 mm l1 z10 oo h1 ct cr cu cg cp co tg ts tr tk te fw fo fu xm ml cl fl rg tR ou od kn : Nat) (cI cM cS cL cD cB : ClassId) {H : Heap} {locs : List Loc} (hP : va_P (dC, dI) vwCl [(ya, .inr (16, [.ref ms, .int 0, .ref ju, .ref li, .ref ct, .ref tg, .ref fw])), (ou, .inl (cL, 1, .inr (.inl (fun _ => 0)))), (xm, .inr (20, [.int 0, .int 0, .ref kn, .int 0, .int 0, .int 0, .ref ml, .ref cl, .ref rg, .ref tR, .ref (aK 0), .ref (aK 0), .ref fl, .int 0, .int 0, .int 0, .int 0, .int 0, .int 0, .int 0, .null])), (ml, .inr (4, [.int 0, .ref e0, .int 0]))] H) (hD : va_D A [(ya, .inr (16, [.ref ms, .int 0, .ref ju, .ref li, .ref ct, .ref tg, .ref fw])), (ou, .inl (cL, 1, .inr (.inl (fun _ => 0)))), (xm, .inr (20, [.int 0, .int 0, .ref kn, .int 0, .int 0, .int 0, .ref ml, .ref cl, .ref rg, .ref tR, .ref (aK 0), .ref (aK 0), .ref fl, .int 0, .int 0, .int 0, .int 0, .int 0, .int 0, .int 0, .null])), (ml, .inr (4, [.int 0, .ref e0, .int 0]))]) (hK : va_K (dC, dI) vwCl [(cL, .long)] s) (hS : va_S A s.heap H locs) {ls : Array Slot} (hl : lv_has ls 9 [(0, .ref b), (1, .ref ya), (2, .ref xm), (3, .ref ou), (4, .ref od), (5, .int 0)]) : W p l e room_1 s m #[Value.ref b] below meth c H locs 200 60000 (lw_Z below #[Value.ref b] s) (F0 m 961 ls []) := by
  obtain ⟨s1, hs1⟩ : ∃ z, z = xs ((0 : Int32) + 1).toNatClampNeg := ⟨_, rfl⟩
  obtain ⟨s2, hs2⟩ : ∃ z, z = xs ((0 : Int32) + 2).toNatClampNeg := ⟨_, rfl⟩
  obtain ⟨s3, hs3⟩ : ∃ z, z = xs ((0 : Int32) + 3).toNatClampNeg := ⟨_, rfl⟩
  obtain ⟨s4, hs4⟩ : ∃ z, z = xs ((0 : Int32) + 4).toNatClampNeg := ⟨_, rfl⟩
  obtain ⟨s5, hs5⟩ : ∃ z, z = xs ((0 : Int32) + 5).toNatClampNeg := ⟨_, rfl⟩
  obtain ⟨s6, hs6⟩ : ∃ z, z = xs ((0 : Int32) + 6).toNatClampNeg := ⟨_, rfl⟩
  obtain ⟨k1, hk1⟩ : ∃ z, z = (s1.toUInt32 % 65536).toInt32 := ⟨_, rfl⟩
  obtain ⟨k2, hk2⟩ : ∃ z, z = (s2.toUInt32 % 65536).toInt32 := ⟨_, rfl⟩
  obtain ⟨k3, hk3⟩ : ∃ z, z = (s3.toUInt32 % 65536).toInt32 := ⟨_, rfl⟩
  obtain ⟨k4, hk4⟩ : ∃ z, z = (s4.toUInt32 % 65536).toInt32 := ⟨_, rfl⟩
  obtain ⟨k5, hk5⟩ : ∃ z, z = (s5.toUInt32 % 65536).toInt32 := ⟨_, rfl⟩
  obtain ⟨k6, hk6⟩ : ∃ z, z = (s6.toUInt32 % 65536).toInt32 := ⟨_, rfl⟩
  refine lv_aload_n hx hb dL_law_961 rfl (lv_at hl 1 rfl) ?_
  refine lv_aload_n hx hb dL_law_962 rfl (lv_at hl 0 rfl) ?_
  refine lv_iload hx hb dL_law_963 (lv_at hl 5 rfl) ?_
  refine lv_iconst (v := 1) hx hb dL_law_965 (by decide) ?_
  refine lv_iadd hx hb dL_law_966 ?_
  refine va_sld hx hb hX hbl hbA hS sx1 dL_law_967 ?_
  refine lv_topi (fun x_1 ex_1 => ?_)
  obtain rfl : s1 = x_1 := (ex_1.trans hs1.symm).symm
  refine lv_aload_n hx hb dL_law_968 rfl (lv_at hl 3 rfl) ?_
  have hPc := hP.sub (ws' := [(ya, .inr (16, [.ref ms, .int 0, .ref ju, .ref li, .ref ct, .ref tg, .ref fw])), (ou, .inl (cL, 1, .inr (.inl (fun _ => 0))))]) [0, 1] rfl
  have hDc := hD.sub (ws' := [(ya, .inr (16, [.ref ms, .int 0, .ref ju, .ref li, .ref ct, .ref tg, .ref fw])), (ou, .inl (cL, 1, .inr (.inl (fun _ => 0))))]) [0, 1] (by decide) rfl
  have hKc := hK.sub (tys' := [(cL, .long)]) [0] rfl
  have hFc := va_free (wc := [(ya, .inr (16, [.ref ms, .int 0, .ref ju, .ref li, .ref ct, .ref tg, .ref fw])), (ou, .inl (cL, 1, .inr (.inl (fun _ => 0))))]) hD hS hA [0, 1] rfl
  refine vx_calli (vx_runSX (As := [.ref ya, .int s1, .ref ou]) (rest := []) ⟨hx, hb, hml, hown, hts⟩ (c_L_runsOf l hfl dC dI ya ms ju li ct tg fw s1 cL ou (fun _ => 0) H.size) (vx_cwSW 3 hts gL_law_L_runsOf rfl rfl rfl (by decide +kernel) ⟨Nat.le_of_ble_eq_true rfl, Nat.le_of_ble_eq_true rfl⟩) (pcSz (zX_ok) hPc hDc hKc hN hZ.1 hS hFc) rfl rfl hl.1 rfl (lv_room (Nat.le_of_ble_eq_true rfl)) dL_law_969 ⟨Nat.le_of_ble_eq_true rfl, Nat.le_of_ble_eq_true rfl⟩) hS (fun q _ h => hFc q h) hFc (fun q _ h => hFc q h) (fun E9 ce9 q9 u9 t9 H9 locs9 ht9 hvm9 hp9 hE9 hz9 hk9 hS9 hc9 hv9 hcl9 => hE9.elim) (fun r_3 u t H1 locs ht hvm hw_4 hB hz1 hk1 hS => ?_)
  obtain of_2 := u
  obtain ⟨hP1, hK1, hD1⟩ := hB
  rw [ht] at hP1
  try dsimp only at hw_4
  obtain ⟨hP, hD⟩ := va_join (wr := [(xm, .inr (20, [.int 0, .int 0, .ref kn, .int 0, .int 0, .int 0, .ref ml, .ref cl, .ref rg, .ref tR, .ref (aK 0), .ref (aK 0), .ref fl, .int 0, .int 0, .int 0, .int 0, .int 0, .int 0, .int 0, .null])), (ml, .inr (4, [.int 0, .ref e0, .int 0]))]) (w1 := [(ou, .inl (cL, 1, .inr (.inl of_2)))]) hP hD [0, 1] [2, 3] rfl rfl (by decide) (by decide) hk1 hFc hP1 hD1
  generalize H1 = H at hP hS ⊢
  have hP : va_P (dC, dI) vwCl [(xm, .inr (20, [.int 0, .int 0, .ref kn, .int 0, .int 0, .int 0, .ref ml, .ref cl, .ref rg, .ref tR, .ref (aK 0), .ref (aK 0), .ref fl, .int 0, .int 0, .int 0, .int 0, .int 0, .int 0, .int 0, .null])), (ml, .inr (4, [.int 0, .ref e0, .int 0])), (ou, .inl (cL, 1, .inr (.inl of_2)))] H := hP
  have hD : va_D A [(xm, .inr (20, [.int 0, .int 0, .ref kn, .int 0, .int 0, .int 0, .ref ml, .ref cl, .ref rg, .ref tR, .ref (aK 0), .ref (aK 0), .ref fl, .int 0, .int 0, .int 0, .int 0, .int 0, .int 0, .int 0, .null])), (ml, .inr (4, [.int 0, .ref e0, .int 0])), (ou, .inl (cL, 1, .inr (.inl of_2)))] := hD
  refine W.widen (k := 201) (n := 60006) (Nat.le_of_ble_eq_true rfl) (Nat.le_of_ble_eq_true rfl) ?_
  obtain rfl : r_3 = 1 := hw_4
  refine lv_istore (lv' := [(6, .int 1), (0, .ref b), (1, .ref ya), (2, .ref xm), (3, .ref ou), (4, .ref od), (5, .int 0)]) hx hb dL_law_972 hl (by decide) rfl (fun ls hl => ?_)
  refine lv_aload_n hx hb dL_law_974 rfl (lv_at hl 3 rfl) ?_
  refine lv_aload_n hx hb dL_law_975 rfl (lv_at hl 1 rfl) ?_
  refine lv_iload hx hb dL_law_976 (lv_at hl 6 rfl) ?_
  refine lv_iconst (v := 1) hx hb dL_law_978 (by decide) ?_
  refine lv_iadd hx hb dL_law_979 ?_
  refine va_sld hx hb hX hbl hbA hS sx1 dL_law_980 ?_
  refine lv_topi (fun x_5 ex_5 => ?_)
  obtain rfl : s1 = x_5 := (ex_5.trans hs1.symm).symm
  have hPc := hP.sub (ws' := [(xm, .inr (20, [.int 0, .int 0, .ref kn, .int 0, .int 0, .int 0, .ref ml, .ref cl, .ref rg, .ref tR, .ref (aK 0), .ref (aK 0), .ref fl, .int 0, .int 0, .int 0, .int 0, .int 0, .int 0, .int 0, .null])), (ml, .inr (4, [.int 0, .ref e0, .int 0]))]) [0, 1] rfl
  have hDc := hD.sub (ws' := [(xm, .inr (20, [.int 0, .int 0, .ref kn, .int 0, .int 0, .int 0, .ref ml, .ref cl, .ref rg, .ref tR, .ref (aK 0), .ref (aK 0), .ref fl, .int 0, .int 0, .int 0, .int 0, .int 0, .int 0, .int 0, .null])), (ml, .inr (4, [.int 0, .ref e0, .int 0]))]) [0, 1] (by decide) rfl
  have hKc := hK.sub (tys' := []) [] rfl
  have hFc := va_free (wc := [(xm, .inr (20, [.int 0, .int 0, .ref kn, .int 0, .int 0, .int 0, .ref ml, .ref cl, .ref rg, .ref tR, .ref (aK 0), .ref (aK 0), .ref fl, .int 0, .int 0, .int 0, .int 0, .int 0, .int 0, .int 0, .null])), (ml, .inr (4, [.int 0, .ref e0, .int 0]))]) hD hS hA [0, 1] rfl
  refine va_calli (va_runV (As := [.int s1]) (rest := []) ⟨hx, hb, hml, hown, hts⟩ (c_X15_runsOf l dC dI xm ml cl fl kn rg tR e0 aK aV s1 H.size) (cwV 1 hts gL_law_X15_runsOf rfl rfl rfl (by decide +kernel) ⟨Nat.le_of_ble_eq_true rfl, Nat.le_of_ble_eq_true rfl⟩) (pcV hPc hDc hKc hN (ci := 20) (q0 := 0) rfl rfl) rfl rfl hl.1 rfl (lv_room (Nat.le_of_ble_eq_true rfl)) dL_law_981 ⟨Nat.le_of_ble_eq_true rfl, Nat.le_of_ble_eq_true rfl⟩) hS (fun q _ h => hFc q h) hFc (fun r_7 u t H1 locs ht hvm hw_8 hB hz1 hk1 hS => ?_)
  obtain fs_6 := u
  obtain ⟨hP1, hK1, hD1⟩ := hB
  rw [ht] at hP1
  try dsimp only at hw_8
  obtain ⟨hP, hD⟩ := va_join (wr := [(ou, .inl (cL, 1, .inr (.inl of_2)))]) (w1 := [(xm, .inr (20, fs_6))]) hP hD [0, 1] [2] rfl rfl (by decide) (by decide) hk1 hFc hP1 hD1
  generalize H1 = H at hP hS ⊢
  have hP : va_P (dC, dI) vwCl [(ou, .inl (cL, 1, .inr (.inl of_2))), (xm, .inr (20, fs_6))] H := hP
  have hD : va_D A [(ou, .inl (cL, 1, .inr (.inl of_2))), (xm, .inr (20, fs_6))] := hD
  refine lv_istore (lv' := [(7, .int r_7), (6, .int 1), (0, .ref b), (1, .ref ya), (2, .ref xm), (3, .ref ou), (4, .ref od), (5, .int 0)]) hx hb dL_law_984 hl (by decide) rfl (fun ls hl => ?_)
  refine lv_aload_n hx hb dL_law_986 rfl (lv_at hl 4 rfl) ?_
  have hPc := hP.sub (ws' := [(xm, .inr (20, fs_6))]) [1] rfl
  have hDc := hD.sub (ws' := [(xm, .inr (20, fs_6))]) [1] (by decide) rfl
  have hKc := hK.sub (tys' := []) [] rfl
  have hFc := va_free (wc := [(xm, .inr (20, fs_6))]) hD hS hA [1] rfl
  refine va_calli (va_runV (As := []) (rest := []) ⟨hx, hb, hml, hown, hts⟩ (c_X15_thrown l dC dI xm fs_6 1 hw_8 H.size) (cwV 0 hts gL_law_X15_thrown rfl rfl rfl (by decide +kernel) ⟨Nat.le_of_ble_eq_true rfl, Nat.le_of_ble_eq_true rfl⟩) (pcV hPc hDc hKc hN (ci := 20) (q0 := 0) rfl rfl) rfl rfl hl.1 rfl (lv_room (Nat.le_of_ble_eq_true rfl)) dL_law_987 ⟨Nat.le_of_ble_eq_true rfl, Nat.le_of_ble_eq_true rfl⟩) hS (fun q _ h => hFc q h) hFc (fun r_9 u t H1 locs ht hvm hw_10 hB hz1 hk1 hS => ?_)
  obtain ⟨hP1, hK1, hD1⟩ := hB
  rw [ht] at hP1
  try dsimp only at hw_10
  obtain ⟨hP, hD⟩ := va_join (wr := [(ou, .inl (cL, 1, .inr (.inl of_2)))]) (w1 := []) hP hD [1] [0] rfl rfl (by decide) (by decide) hk1 hFc hP1 hD1
  generalize H1 = H at hP hS ⊢
  have hP : va_P (dC, dI) vwCl [(ou, .inl (cL, 1, .inr (.inl of_2)))] H := hP
  have hD : va_D A [(ou, .inl (cL, 1, .inr (.inl of_2)))] := hD
  obtain rfl : r_9 = 1 := hw_10
  refine lv_iload hx hb dL_law_990 (lv_at hl 1 rfl) ?_
  refine lv_icmp_eq (tgt := 997) hx hb dL_law_992 (by decide) (fun c992_11 => ?_) (fun c992_11 => ?_)
  · refine lv_iload hx hb dL_law_997 (lv_at hl 1 rfl) ?_
    refine lv_if_ne (tgt := 1014) hx hb dL_law_999 (by decide) (fun c999_12 => ?_) (fun c999_12 => ?_)
    · refine lv_goto (tgt := 2778) hx hb dL_law_1014 (by decide) ?_
      refine W.widen (k := 600006) (n := 7302039) (Nat.le_of_ble_eq_true rfl) (Nat.le_of_ble_eq_true rfl) ?_
      exact law_end hx hb hr hml hX hbl hlocks hbA hAo hS (lv_sub hl [2, 7] rfl)
    · exact absurd c999_12 (by decide)
  · exact (c992_11 (by decide)).elim

set_option maxHeartbeats 8000000 in
set_option maxRecDepth 100000 in
/-- the law: law_11_decide -/
theorem law_11_decide {p : Program} {e : Env} {s : State} {m : MethodId} {below : List Frame} {meth : Method} {c : Code} {l : Launch} {b : Nat} {xs : Nat → Int32} (hx : p.tables.exec = Jvm.exec) (hb : c.code = cL_law) (hr : meth.sig.returnType = ret) (hml : c.maxLocals = 9) (hfl : l.stackTraces = false) (hown : s.vm.findClass RL = some m.cls) (hts : ∀ w ∈ wsL_law, w.before #[Value.ref b] s = true) (hX : va_X b 7 xs s s.heap) (hbl : b < s.heap.size) (hlocks : meth.locks = false) {A : Nat → Prop} (hbA : ¬ A b) (hAo : ∀ q, A q → s.heap.size ≤ q) (hA : ∀ q : Nat, s.heap.size ≤ q → A q) (dC : Nat → ClassId) (dI : Nat → Nat → Nat) (hN : nwA s) (e0 : Nat) (aK aV : Nat → Nat) (hZ : zX A s s.heap ∧ zM e0 aK aV A s s.heap) (ya ms ju rj tj ro rn tn rh th ca sa da xa wb z1 z2 jt z3 br z4 z5 z6 lk z7 z8 li bm l2 z9 bo h2 mm l1 z10 oo h1 ct cr cu cg cp co tg ts tr tk te fw fo fu xm ml cl fl rg tR ou od kn : Nat) (cI cM cS cL cD cB : ClassId) {H : Heap} {locs : List Loc} (hP : va_P (dC, dI) vwCl [(ya, .inr (16, [.ref ms, .int 0, .ref ju, .ref li, .ref ct, .ref tg, .ref fw])), (ou, .inl (cL, 1, .inr (.inl (fun _ => 0)))), (xm, .inr (20, [.int 0, .int 0, .ref kn, .int 0, .int 0, .int 0, .ref ml, .ref cl, .ref rg, .ref tR, .ref (aK 0), .ref (aK 0), .ref fl, .int 0, .int 0, .int 0, .int 0, .int 0, .int 0, .int 0, .null])), (ml, .inr (4, [.int 0, .ref e0, .int 0]))] H) (hD : va_D A [(ya, .inr (16, [.ref ms, .int 0, .ref ju, .ref li, .ref ct, .ref tg, .ref fw])), (ou, .inl (cL, 1, .inr (.inl (fun _ => 0)))), (xm, .inr (20, [.int 0, .int 0, .ref kn, .int 0, .int 0, .int 0, .ref ml, .ref cl, .ref rg, .ref tR, .ref (aK 0), .ref (aK 0), .ref fl, .int 0, .int 0, .int 0, .int 0, .int 0, .int 0, .int 0, .null])), (ml, .inr (4, [.int 0, .ref e0, .int 0]))]) (hK : va_K (dC, dI) vwCl [(cL, .long)] s) (hS : va_S A s.heap H locs) {ls : Array Slot} (hl : lv_has ls 9 [(0, .ref b), (1, .ref ya), (2, .ref xm), (3, .ref ou), (4, .ref od), (5, .int 0)]) : W p l e room_1 s m #[Value.ref b] below meth c H locs 200 60000 (lw_Z below #[Value.ref b] s) (F0 m 1017 ls []) := by
  obtain ⟨s1, hs1⟩ : ∃ z, z = xs ((0 : Int32) + 1).toNatClampNeg := ⟨_, rfl⟩
  obtain ⟨s2, hs2⟩ : ∃ z, z = xs ((0 : Int32) + 2).toNatClampNeg := ⟨_, rfl⟩
  obtain ⟨s3, hs3⟩ : ∃ z, z = xs ((0 : Int32) + 3).toNatClampNeg := ⟨_, rfl⟩
  obtain ⟨s4, hs4⟩ : ∃ z, z = xs ((0 : Int32) + 4).toNatClampNeg := ⟨_, rfl⟩
  obtain ⟨s5, hs5⟩ : ∃ z, z = xs ((0 : Int32) + 5).toNatClampNeg := ⟨_, rfl⟩
  obtain ⟨s6, hs6⟩ : ∃ z, z = xs ((0 : Int32) + 6).toNatClampNeg := ⟨_, rfl⟩
  obtain ⟨k1, hk1⟩ : ∃ z, z = (s1.toUInt32 % 65536).toInt32 := ⟨_, rfl⟩
  obtain ⟨k2, hk2⟩ : ∃ z, z = (s2.toUInt32 % 65536).toInt32 := ⟨_, rfl⟩
  obtain ⟨k3, hk3⟩ : ∃ z, z = (s3.toUInt32 % 65536).toInt32 := ⟨_, rfl⟩
  obtain ⟨k4, hk4⟩ : ∃ z, z = (s4.toUInt32 % 65536).toInt32 := ⟨_, rfl⟩
  obtain ⟨k5, hk5⟩ : ∃ z, z = (s5.toUInt32 % 65536).toInt32 := ⟨_, rfl⟩
  obtain ⟨k6, hk6⟩ : ∃ z, z = (s6.toUInt32 % 65536).toInt32 := ⟨_, rfl⟩
  refine lv_aload_n hx hb dL_law_1017 rfl (lv_at hl 1 rfl) ?_
  refine lv_aload_n hx hb dL_law_1018 rfl (lv_at hl 0 rfl) ?_
  refine lv_iload hx hb dL_law_1019 (lv_at hl 5 rfl) ?_
  refine lv_iconst (v := 1) hx hb dL_law_1021 (by decide) ?_
  refine lv_iadd hx hb dL_law_1022 ?_
  refine va_sld hx hb hX hbl hbA hS sx1 dL_law_1023 ?_
  refine lv_topi (fun x_1 ex_1 => ?_)
  obtain rfl : s1 = x_1 := (ex_1.trans hs1.symm).symm
  refine lv_aload_n hx hb dL_law_1024 rfl (lv_at hl 0 rfl) ?_
  refine lv_iload hx hb dL_law_1025 (lv_at hl 5 rfl) ?_
  refine lv_iconst (v := 2) hx hb dL_law_1027 (by decide) ?_
  refine lv_iadd hx hb dL_law_1028 ?_
  refine va_sld hx hb hX hbl hbA hS sx2 dL_law_1029 ?_
  refine lv_topi (fun x_2 ex_2 => ?_)
  obtain rfl : s2 = x_2 := (ex_2.trans hs2.symm).symm
  refine lv_i2c hx hb dL_law_1030 rfl ?_
  refine lv_topi (fun x_3 ex_3 => ?_)
  obtain rfl : k2 = x_3 := (ex_3.trans hk2.symm).symm
  refine lv_aload_n hx hb dL_law_1031 rfl (lv_at hl 0 rfl) ?_
  refine lv_iload hx hb dL_law_1032 (lv_at hl 5 rfl) ?_
  refine lv_iconst (v := 3) hx hb dL_law_1034 (by decide) ?_
  refine lv_iadd hx hb dL_law_1035 ?_
  refine va_sld hx hb hX hbl hbA hS sx3 dL_law_1036 ?_
  refine lv_topi (fun x_4 ex_4 => ?_)
  obtain rfl : s3 = x_4 := (ex_4.trans hs3.symm).symm
  refine lv_aload_n hx hb dL_law_1037 rfl (lv_at hl 3 rfl) ?_
  have hPc := hP.sub (ws' := [(ya, .inr (16, [.ref ms, .int 0, .ref ju, .ref li, .ref ct, .ref tg, .ref fw])), (ou, .inl (cL, 1, .inr (.inl (fun _ => 0))))]) [0, 1] rfl
  have hDc := hD.sub (ws' := [(ya, .inr (16, [.ref ms, .int 0, .ref ju, .ref li, .ref ct, .ref tg, .ref fw])), (ou, .inl (cL, 1, .inr (.inl (fun _ => 0))))]) [0, 1] (by decide) rfl
  have hKc := hK.sub (tys' := [(cL, .long)]) [0] rfl
  have hFc := va_free (wc := [(ya, .inr (16, [.ref ms, .int 0, .ref ju, .ref li, .ref ct, .ref tg, .ref fw])), (ou, .inl (cL, 1, .inr (.inl (fun _ => 0))))]) hD hS hA [0, 1] rfl
  refine vx_calli (vx_runSX (As := [.ref ya, .int s1, .int k2, .int s3, .ref ou]) (rest := []) ⟨hx, hb, hml, hown, hts⟩ (c_L_decide l hfl dC dI ya ms ju li ct tg fw s1 k2 s3 cL ou (fun _ => 0) H.size) (vx_cwSW 5 hts gL_law_L_decide rfl rfl rfl (by decide +kernel) ⟨Nat.le_of_ble_eq_true rfl, Nat.le_of_ble_eq_true rfl⟩) (pcSz (zX_ok) hPc hDc hKc hN hZ.1 hS hFc) rfl rfl hl.1 rfl (lv_room (Nat.le_of_ble_eq_true rfl)) dL_law_1038 ⟨Nat.le_of_ble_eq_true rfl, Nat.le_of_ble_eq_true rfl⟩) hS (fun q _ h => hFc q h) hFc (fun q _ h => hFc q h) (fun E9 ce9 q9 u9 t9 H9 locs9 ht9 hvm9 hp9 hE9 hz9 hk9 hS9 hc9 hv9 hcl9 => hE9.elim) (fun r_6 u t H1 locs ht hvm hw_7 hB hz1 hk1 hS => ?_)
  obtain of_5 := u
  obtain ⟨hP1, hK1, hD1⟩ := hB
  rw [ht] at hP1
  try dsimp only at hw_7
  obtain ⟨hP, hD⟩ := va_join (wr := [(xm, .inr (20, [.int 0, .int 0, .ref kn, .int 0, .int 0, .int 0, .ref ml, .ref cl, .ref rg, .ref tR, .ref (aK 0), .ref (aK 0), .ref fl, .int 0, .int 0, .int 0, .int 0, .int 0, .int 0, .int 0, .null])), (ml, .inr (4, [.int 0, .ref e0, .int 0]))]) (w1 := [(ou, .inl (cL, 1, .inr (.inl of_5)))]) hP hD [0, 1] [2, 3] rfl rfl (by decide) (by decide) hk1 hFc hP1 hD1
  generalize H1 = H at hP hS ⊢
  have hP : va_P (dC, dI) vwCl [(xm, .inr (20, [.int 0, .int 0, .ref kn, .int 0, .int 0, .int 0, .ref ml, .ref cl, .ref rg, .ref tR, .ref (aK 0), .ref (aK 0), .ref fl, .int 0, .int 0, .int 0, .int 0, .int 0, .int 0, .int 0, .null])), (ml, .inr (4, [.int 0, .ref e0, .int 0])), (ou, .inl (cL, 1, .inr (.inl of_5)))] H := hP
  have hD : va_D A [(xm, .inr (20, [.int 0, .int 0, .ref kn, .int 0, .int 0, .int 0, .ref ml, .ref cl, .ref rg, .ref tR, .ref (aK 0), .ref (aK 0), .ref fl, .int 0, .int 0, .int 0, .int 0, .int 0, .int 0, .int 0, .null])), (ml, .inr (4, [.int 0, .ref e0, .int 0])), (ou, .inl (cL, 1, .inr (.inl of_5)))] := hD
  refine W.widen (k := 201) (n := 60006) (Nat.le_of_ble_eq_true rfl) (Nat.le_of_ble_eq_true rfl) ?_
  obtain rfl : r_6 = 1 := hw_7
  refine lv_istore (lv' := [(6, .int 1), (0, .ref b), (1, .ref ya), (2, .ref xm), (3, .ref ou), (4, .ref od), (5, .int 0)]) hx hb dL_law_1041 hl (by decide) rfl (fun ls hl => ?_)
  refine lv_aload_n hx hb dL_law_1043 rfl (lv_at hl 3 rfl) ?_
  refine lv_aload_n hx hb dL_law_1044 rfl (lv_at hl 1 rfl) ?_
  refine lv_iload hx hb dL_law_1045 (lv_at hl 6 rfl) ?_
  refine lv_iconst (v := 1) hx hb dL_law_1047 (by decide) ?_
  refine lv_iadd hx hb dL_law_1048 ?_
  refine va_sld hx hb hX hbl hbA hS sx1 dL_law_1049 ?_
  refine lv_topi (fun x_8 ex_8 => ?_)
  obtain rfl : s1 = x_8 := (ex_8.trans hs1.symm).symm
  refine lv_aload_n hx hb dL_law_1050 rfl (lv_at hl 1 rfl) ?_
  refine lv_iload hx hb dL_law_1051 (lv_at hl 6 rfl) ?_
  refine lv_iconst (v := 2) hx hb dL_law_1053 (by decide) ?_
  refine lv_iadd hx hb dL_law_1054 ?_
  refine va_sld hx hb hX hbl hbA hS sx2 dL_law_1055 ?_
  refine lv_topi (fun x_9 ex_9 => ?_)
  obtain rfl : s2 = x_9 := (ex_9.trans hs2.symm).symm
  refine lv_i2c hx hb dL_law_1056 rfl ?_
  refine lv_topi (fun x_10 ex_10 => ?_)
  obtain rfl : k2 = x_10 := (ex_10.trans hk2.symm).symm
  refine lv_aload_n hx hb dL_law_1057 rfl (lv_at hl 1 rfl) ?_
  refine lv_iload hx hb dL_law_1058 (lv_at hl 6 rfl) ?_
  refine lv_iconst (v := 3) hx hb dL_law_1060 (by decide) ?_
  refine lv_iadd hx hb dL_law_1061 ?_
  refine va_sld hx hb hX hbl hbA hS sx3 dL_law_1062 ?_
  refine lv_topi (fun x_11 ex_11 => ?_)
  obtain rfl : s3 = x_11 := (ex_11.trans hs3.symm).symm
  have hPc := hP.sub (ws' := [(xm, .inr (20, [.int 0, .int 0, .ref kn, .int 0, .int 0, .int 0, .ref ml, .ref cl, .ref rg, .ref tR, .ref (aK 0), .ref (aK 0), .ref fl, .int 0, .int 0, .int 0, .int 0, .int 0, .int 0, .int 0, .null])), (ml, .inr (4, [.int 0, .ref e0, .int 0]))]) [0, 1] rfl
  have hDc := hD.sub (ws' := [(xm, .inr (20, [.int 0, .int 0, .ref kn, .int 0, .int 0, .int 0, .ref ml, .ref cl, .ref rg, .ref tR, .ref (aK 0), .ref (aK 0), .ref fl, .int 0, .int 0, .int 0, .int 0, .int 0, .int 0, .int 0, .null])), (ml, .inr (4, [.int 0, .ref e0, .int 0]))]) [0, 1] (by decide) rfl
  have hKc := hK.sub (tys' := []) [] rfl
  have hFc := va_free (wc := [(xm, .inr (20, [.int 0, .int 0, .ref kn, .int 0, .int 0, .int 0, .ref ml, .ref cl, .ref rg, .ref tR, .ref (aK 0), .ref (aK 0), .ref fl, .int 0, .int 0, .int 0, .int 0, .int 0, .int 0, .int 0, .null])), (ml, .inr (4, [.int 0, .ref e0, .int 0]))]) hD hS hA [0, 1] rfl
  refine va_calli (va_runV (As := [.int s1, .int k2, .int s3]) (rest := []) ⟨hx, hb, hml, hown, hts⟩ (c_X15_decide l dC dI xm ml cl fl kn rg tR e0 aK aV s1 k2 s3 H.size) (cwV 3 hts gL_law_X15_decide rfl rfl rfl (by decide +kernel) ⟨Nat.le_of_ble_eq_true rfl, Nat.le_of_ble_eq_true rfl⟩) (pcV hPc hDc hKc hN (ci := 20) (q0 := 0) rfl rfl) rfl rfl hl.1 rfl (lv_room (Nat.le_of_ble_eq_true rfl)) dL_law_1063 ⟨Nat.le_of_ble_eq_true rfl, Nat.le_of_ble_eq_true rfl⟩) hS (fun q _ h => hFc q h) hFc (fun r_13 u t H1 locs ht hvm hw_14 hB hz1 hk1 hS => ?_)
  obtain fs_12 := u
  obtain ⟨hP1, hK1, hD1⟩ := hB
  rw [ht] at hP1
  try dsimp only at hw_14
  obtain ⟨hP, hD⟩ := va_join (wr := [(ou, .inl (cL, 1, .inr (.inl of_5)))]) (w1 := [(xm, .inr (20, fs_12))]) hP hD [0, 1] [2] rfl rfl (by decide) (by decide) hk1 hFc hP1 hD1
  generalize H1 = H at hP hS ⊢
  have hP : va_P (dC, dI) vwCl [(ou, .inl (cL, 1, .inr (.inl of_5))), (xm, .inr (20, fs_12))] H := hP
  have hD : va_D A [(ou, .inl (cL, 1, .inr (.inl of_5))), (xm, .inr (20, fs_12))] := hD
  refine lv_istore (lv' := [(7, .int r_13), (6, .int 1), (0, .ref b), (1, .ref ya), (2, .ref xm), (3, .ref ou), (4, .ref od), (5, .int 0)]) hx hb dL_law_1066 hl (by decide) rfl (fun ls hl => ?_)
  refine lv_aload_n hx hb dL_law_1068 rfl (lv_at hl 4 rfl) ?_
  have hPc := hP.sub (ws' := [(xm, .inr (20, fs_12))]) [1] rfl
  have hDc := hD.sub (ws' := [(xm, .inr (20, fs_12))]) [1] (by decide) rfl
  have hKc := hK.sub (tys' := []) [] rfl
  have hFc := va_free (wc := [(xm, .inr (20, fs_12))]) hD hS hA [1] rfl
  refine va_calli (va_runV (As := []) (rest := []) ⟨hx, hb, hml, hown, hts⟩ (c_X15_thrown l dC dI xm fs_12 1 hw_14 H.size) (cwV 0 hts gL_law_X15_thrown rfl rfl rfl (by decide +kernel) ⟨Nat.le_of_ble_eq_true rfl, Nat.le_of_ble_eq_true rfl⟩) (pcV hPc hDc hKc hN (ci := 20) (q0 := 0) rfl rfl) rfl rfl hl.1 rfl (lv_room (Nat.le_of_ble_eq_true rfl)) dL_law_1069 ⟨Nat.le_of_ble_eq_true rfl, Nat.le_of_ble_eq_true rfl⟩) hS (fun q _ h => hFc q h) hFc (fun r_15 u t H1 locs ht hvm hw_16 hB hz1 hk1 hS => ?_)
  obtain ⟨hP1, hK1, hD1⟩ := hB
  rw [ht] at hP1
  try dsimp only at hw_16
  obtain ⟨hP, hD⟩ := va_join (wr := [(ou, .inl (cL, 1, .inr (.inl of_5)))]) (w1 := []) hP hD [1] [0] rfl rfl (by decide) (by decide) hk1 hFc hP1 hD1
  generalize H1 = H at hP hS ⊢
  have hP : va_P (dC, dI) vwCl [(ou, .inl (cL, 1, .inr (.inl of_5)))] H := hP
  have hD : va_D A [(ou, .inl (cL, 1, .inr (.inl of_5)))] := hD
  obtain rfl : r_15 = 1 := hw_16
  refine lv_iload hx hb dL_law_1072 (lv_at hl 1 rfl) ?_
  refine lv_icmp_eq (tgt := 1079) hx hb dL_law_1074 (by decide) (fun c1074_17 => ?_) (fun c1074_17 => ?_)
  · refine lv_iload hx hb dL_law_1079 (lv_at hl 1 rfl) ?_
    refine lv_if_ne (tgt := 1103) hx hb dL_law_1081 (by decide) (fun c1081_18 => ?_) (fun c1081_18 => ?_)
    · refine lv_goto (tgt := 2778) hx hb dL_law_1103 (by decide) ?_
      refine W.widen (k := 600006) (n := 7302039) (Nat.le_of_ble_eq_true rfl) (Nat.le_of_ble_eq_true rfl) ?_
      exact law_end hx hb hr hml hX hbl hlocks hbA hAo hS (lv_sub hl [2, 7] rfl)
    · exact absurd c1081_18 (by decide)
  · exact (c1074_17 (by decide)).elim

set_option maxHeartbeats 8000000 in
set_option maxRecDepth 100000 in
/-- the law: law_12_verdict -/
theorem law_12_verdict {p : Program} {e : Env} {s : State} {m : MethodId} {below : List Frame} {meth : Method} {c : Code} {l : Launch} {b : Nat} {xs : Nat → Int32} (hx : p.tables.exec = Jvm.exec) (hb : c.code = cL_law) (hr : meth.sig.returnType = ret) (hml : c.maxLocals = 9) (hfl : l.stackTraces = false) (hown : s.vm.findClass RL = some m.cls) (hts : ∀ w ∈ wsL_law, w.before #[Value.ref b] s = true) (hX : va_X b 7 xs s s.heap) (hbl : b < s.heap.size) (hlocks : meth.locks = false) {A : Nat → Prop} (hbA : ¬ A b) (hAo : ∀ q, A q → s.heap.size ≤ q) (hA : ∀ q : Nat, s.heap.size ≤ q → A q) (dC : Nat → ClassId) (dI : Nat → Nat → Nat) (hN : nwA s) (e0 : Nat) (aK aV : Nat → Nat) (hZ : zX A s s.heap ∧ zM e0 aK aV A s s.heap) (ya ms ju rj tj ro rn tn rh th ca sa da xa wb z1 z2 jt z3 br z4 z5 z6 lk z7 z8 li bm l2 z9 bo h2 mm l1 z10 oo h1 ct cr cu cg cp co tg ts tr tk te fw fo fu xm ml cl fl rg tR ou od kn : Nat) (cI cM cS cL cD cB : ClassId) {H : Heap} {locs : List Loc} (hP : va_P (dC, dI) vwCl [(ya, .inr (16, [.ref ms, .int 0, .ref ju, .ref li, .ref ct, .ref tg, .ref fw])), (ou, .inl (cL, 1, .inr (.inl (fun _ => 0)))), (xm, .inr (20, [.int 0, .int 0, .ref kn, .int 0, .int 0, .int 0, .ref ml, .ref cl, .ref rg, .ref tR, .ref (aK 0), .ref (aK 0), .ref fl, .int 0, .int 0, .int 0, .int 0, .int 0, .int 0, .int 0, .null])), (ml, .inr (4, [.int 0, .ref e0, .int 0]))] H) (hD : va_D A [(ya, .inr (16, [.ref ms, .int 0, .ref ju, .ref li, .ref ct, .ref tg, .ref fw])), (ou, .inl (cL, 1, .inr (.inl (fun _ => 0)))), (xm, .inr (20, [.int 0, .int 0, .ref kn, .int 0, .int 0, .int 0, .ref ml, .ref cl, .ref rg, .ref tR, .ref (aK 0), .ref (aK 0), .ref fl, .int 0, .int 0, .int 0, .int 0, .int 0, .int 0, .int 0, .null])), (ml, .inr (4, [.int 0, .ref e0, .int 0]))]) (hK : va_K (dC, dI) vwCl [(cL, .long)] s) (hS : va_S A s.heap H locs) {ls : Array Slot} (hl : lv_has ls 9 [(0, .ref b), (1, .ref ya), (2, .ref xm), (3, .ref ou), (4, .ref od), (5, .int 0)]) : W p l e room_1 s m #[Value.ref b] below meth c H locs 200 60000 (lw_Z below #[Value.ref b] s) (F0 m 1106 ls []) := by
  obtain ⟨s1, hs1⟩ : ∃ z, z = xs ((0 : Int32) + 1).toNatClampNeg := ⟨_, rfl⟩
  obtain ⟨s2, hs2⟩ : ∃ z, z = xs ((0 : Int32) + 2).toNatClampNeg := ⟨_, rfl⟩
  obtain ⟨s3, hs3⟩ : ∃ z, z = xs ((0 : Int32) + 3).toNatClampNeg := ⟨_, rfl⟩
  obtain ⟨s4, hs4⟩ : ∃ z, z = xs ((0 : Int32) + 4).toNatClampNeg := ⟨_, rfl⟩
  obtain ⟨s5, hs5⟩ : ∃ z, z = xs ((0 : Int32) + 5).toNatClampNeg := ⟨_, rfl⟩
  obtain ⟨s6, hs6⟩ : ∃ z, z = xs ((0 : Int32) + 6).toNatClampNeg := ⟨_, rfl⟩
  obtain ⟨k1, hk1⟩ : ∃ z, z = (s1.toUInt32 % 65536).toInt32 := ⟨_, rfl⟩
  obtain ⟨k2, hk2⟩ : ∃ z, z = (s2.toUInt32 % 65536).toInt32 := ⟨_, rfl⟩
  obtain ⟨k3, hk3⟩ : ∃ z, z = (s3.toUInt32 % 65536).toInt32 := ⟨_, rfl⟩
  obtain ⟨k4, hk4⟩ : ∃ z, z = (s4.toUInt32 % 65536).toInt32 := ⟨_, rfl⟩
  obtain ⟨k5, hk5⟩ : ∃ z, z = (s5.toUInt32 % 65536).toInt32 := ⟨_, rfl⟩
  obtain ⟨k6, hk6⟩ : ∃ z, z = (s6.toUInt32 % 65536).toInt32 := ⟨_, rfl⟩
  refine lv_aload_n hx hb dL_law_1106 rfl (lv_at hl 1 rfl) ?_
  refine lv_aload_n hx hb dL_law_1107 rfl (lv_at hl 0 rfl) ?_
  refine lv_iload hx hb dL_law_1108 (lv_at hl 5 rfl) ?_
  refine lv_iconst (v := 1) hx hb dL_law_1110 (by decide) ?_
  refine lv_iadd hx hb dL_law_1111 ?_
  refine va_sld hx hb hX hbl hbA hS sx1 dL_law_1112 ?_
  refine lv_topi (fun x_1 ex_1 => ?_)
  obtain rfl : s1 = x_1 := (ex_1.trans hs1.symm).symm
  refine lv_aload_n hx hb dL_law_1113 rfl (lv_at hl 3 rfl) ?_
  have hPc := hP.sub (ws' := [(ya, .inr (16, [.ref ms, .int 0, .ref ju, .ref li, .ref ct, .ref tg, .ref fw])), (ou, .inl (cL, 1, .inr (.inl (fun _ => 0))))]) [0, 1] rfl
  have hDc := hD.sub (ws' := [(ya, .inr (16, [.ref ms, .int 0, .ref ju, .ref li, .ref ct, .ref tg, .ref fw])), (ou, .inl (cL, 1, .inr (.inl (fun _ => 0))))]) [0, 1] (by decide) rfl
  have hKc := hK.sub (tys' := [(cL, .long)]) [0] rfl
  have hFc := va_free (wc := [(ya, .inr (16, [.ref ms, .int 0, .ref ju, .ref li, .ref ct, .ref tg, .ref fw])), (ou, .inl (cL, 1, .inr (.inl (fun _ => 0))))]) hD hS hA [0, 1] rfl
  refine vx_calli (vx_runSX (As := [.ref ya, .int s1, .ref ou]) (rest := []) ⟨hx, hb, hml, hown, hts⟩ (c_L_verdict l hfl dC dI ya ms ju li ct tg fw s1 cL ou (fun _ => 0) H.size) (vx_cwSW 3 hts gL_law_L_verdict rfl rfl rfl (by decide +kernel) ⟨Nat.le_of_ble_eq_true rfl, Nat.le_of_ble_eq_true rfl⟩) (pcSz (zX_ok) hPc hDc hKc hN hZ.1 hS hFc) rfl rfl hl.1 rfl (lv_room (Nat.le_of_ble_eq_true rfl)) dL_law_1114 ⟨Nat.le_of_ble_eq_true rfl, Nat.le_of_ble_eq_true rfl⟩) hS (fun q _ h => hFc q h) hFc (fun q _ h => hFc q h) (fun E9 ce9 q9 u9 t9 H9 locs9 ht9 hvm9 hp9 hE9 hz9 hk9 hS9 hc9 hv9 hcl9 => hE9.elim) (fun r_3 u t H1 locs ht hvm hw_4 hB hz1 hk1 hS => ?_)
  obtain of_2 := u
  obtain ⟨hP1, hK1, hD1⟩ := hB
  rw [ht] at hP1
  try dsimp only at hw_4
  obtain ⟨hP, hD⟩ := va_join (wr := [(xm, .inr (20, [.int 0, .int 0, .ref kn, .int 0, .int 0, .int 0, .ref ml, .ref cl, .ref rg, .ref tR, .ref (aK 0), .ref (aK 0), .ref fl, .int 0, .int 0, .int 0, .int 0, .int 0, .int 0, .int 0, .null])), (ml, .inr (4, [.int 0, .ref e0, .int 0]))]) (w1 := [(ou, .inl (cL, 1, .inr (.inl of_2)))]) hP hD [0, 1] [2, 3] rfl rfl (by decide) (by decide) hk1 hFc hP1 hD1
  generalize H1 = H at hP hS ⊢
  have hP : va_P (dC, dI) vwCl [(xm, .inr (20, [.int 0, .int 0, .ref kn, .int 0, .int 0, .int 0, .ref ml, .ref cl, .ref rg, .ref tR, .ref (aK 0), .ref (aK 0), .ref fl, .int 0, .int 0, .int 0, .int 0, .int 0, .int 0, .int 0, .null])), (ml, .inr (4, [.int 0, .ref e0, .int 0])), (ou, .inl (cL, 1, .inr (.inl of_2)))] H := hP
  have hD : va_D A [(xm, .inr (20, [.int 0, .int 0, .ref kn, .int 0, .int 0, .int 0, .ref ml, .ref cl, .ref rg, .ref tR, .ref (aK 0), .ref (aK 0), .ref fl, .int 0, .int 0, .int 0, .int 0, .int 0, .int 0, .int 0, .null])), (ml, .inr (4, [.int 0, .ref e0, .int 0])), (ou, .inl (cL, 1, .inr (.inl of_2)))] := hD
  refine W.widen (k := 201) (n := 60006) (Nat.le_of_ble_eq_true rfl) (Nat.le_of_ble_eq_true rfl) ?_
  obtain rfl : r_3 = 1 := hw_4
  refine lv_istore (lv' := [(6, .int 1), (0, .ref b), (1, .ref ya), (2, .ref xm), (3, .ref ou), (4, .ref od), (5, .int 0)]) hx hb dL_law_1117 hl (by decide) rfl (fun ls hl => ?_)
  refine lv_aload_n hx hb dL_law_1119 rfl (lv_at hl 3 rfl) ?_
  refine lv_aload_n hx hb dL_law_1120 rfl (lv_at hl 1 rfl) ?_
  refine lv_iload hx hb dL_law_1121 (lv_at hl 6 rfl) ?_
  refine lv_iconst (v := 1) hx hb dL_law_1123 (by decide) ?_
  refine lv_iadd hx hb dL_law_1124 ?_
  refine va_sld hx hb hX hbl hbA hS sx1 dL_law_1125 ?_
  refine lv_topi (fun x_5 ex_5 => ?_)
  obtain rfl : s1 = x_5 := (ex_5.trans hs1.symm).symm
  have hPc := hP.sub (ws' := [(xm, .inr (20, [.int 0, .int 0, .ref kn, .int 0, .int 0, .int 0, .ref ml, .ref cl, .ref rg, .ref tR, .ref (aK 0), .ref (aK 0), .ref fl, .int 0, .int 0, .int 0, .int 0, .int 0, .int 0, .int 0, .null])), (ml, .inr (4, [.int 0, .ref e0, .int 0]))]) [0, 1] rfl
  have hDc := hD.sub (ws' := [(xm, .inr (20, [.int 0, .int 0, .ref kn, .int 0, .int 0, .int 0, .ref ml, .ref cl, .ref rg, .ref tR, .ref (aK 0), .ref (aK 0), .ref fl, .int 0, .int 0, .int 0, .int 0, .int 0, .int 0, .int 0, .null])), (ml, .inr (4, [.int 0, .ref e0, .int 0]))]) [0, 1] (by decide) rfl
  have hKc := hK.sub (tys' := []) [] rfl
  have hFc := va_free (wc := [(xm, .inr (20, [.int 0, .int 0, .ref kn, .int 0, .int 0, .int 0, .ref ml, .ref cl, .ref rg, .ref tR, .ref (aK 0), .ref (aK 0), .ref fl, .int 0, .int 0, .int 0, .int 0, .int 0, .int 0, .int 0, .null])), (ml, .inr (4, [.int 0, .ref e0, .int 0]))]) hD hS hA [0, 1] rfl
  refine va_calli (va_runV (As := [.int s1]) (rest := []) ⟨hx, hb, hml, hown, hts⟩ (c_X15_verdict l dC dI xm ml cl fl kn rg tR e0 aK aV s1 H.size) (cwV 1 hts gL_law_X15_verdict rfl rfl rfl (by decide +kernel) ⟨Nat.le_of_ble_eq_true rfl, Nat.le_of_ble_eq_true rfl⟩) (pcV hPc hDc hKc hN (ci := 20) (q0 := 0) rfl rfl) rfl rfl hl.1 rfl (lv_room (Nat.le_of_ble_eq_true rfl)) dL_law_1126 ⟨Nat.le_of_ble_eq_true rfl, Nat.le_of_ble_eq_true rfl⟩) hS (fun q _ h => hFc q h) hFc (fun r_7 u t H1 locs ht hvm hw_8 hB hz1 hk1 hS => ?_)
  obtain fs_6 := u
  obtain ⟨hP1, hK1, hD1⟩ := hB
  rw [ht] at hP1
  try dsimp only at hw_8
  obtain ⟨hP, hD⟩ := va_join (wr := [(ou, .inl (cL, 1, .inr (.inl of_2)))]) (w1 := [(xm, .inr (20, fs_6))]) hP hD [0, 1] [2] rfl rfl (by decide) (by decide) hk1 hFc hP1 hD1
  generalize H1 = H at hP hS ⊢
  have hP : va_P (dC, dI) vwCl [(ou, .inl (cL, 1, .inr (.inl of_2))), (xm, .inr (20, fs_6))] H := hP
  have hD : va_D A [(ou, .inl (cL, 1, .inr (.inl of_2))), (xm, .inr (20, fs_6))] := hD
  refine lv_istore (lv' := [(7, .int r_7), (6, .int 1), (0, .ref b), (1, .ref ya), (2, .ref xm), (3, .ref ou), (4, .ref od), (5, .int 0)]) hx hb dL_law_1129 hl (by decide) rfl (fun ls hl => ?_)
  refine lv_aload_n hx hb dL_law_1131 rfl (lv_at hl 4 rfl) ?_
  have hPc := hP.sub (ws' := [(xm, .inr (20, fs_6))]) [1] rfl
  have hDc := hD.sub (ws' := [(xm, .inr (20, fs_6))]) [1] (by decide) rfl
  have hKc := hK.sub (tys' := []) [] rfl
  have hFc := va_free (wc := [(xm, .inr (20, fs_6))]) hD hS hA [1] rfl
  refine va_calli (va_runV (As := []) (rest := []) ⟨hx, hb, hml, hown, hts⟩ (c_X15_thrown l dC dI xm fs_6 1 hw_8 H.size) (cwV 0 hts gL_law_X15_thrown rfl rfl rfl (by decide +kernel) ⟨Nat.le_of_ble_eq_true rfl, Nat.le_of_ble_eq_true rfl⟩) (pcV hPc hDc hKc hN (ci := 20) (q0 := 0) rfl rfl) rfl rfl hl.1 rfl (lv_room (Nat.le_of_ble_eq_true rfl)) dL_law_1132 ⟨Nat.le_of_ble_eq_true rfl, Nat.le_of_ble_eq_true rfl⟩) hS (fun q _ h => hFc q h) hFc (fun r_9 u t H1 locs ht hvm hw_10 hB hz1 hk1 hS => ?_)
  obtain ⟨hP1, hK1, hD1⟩ := hB
  rw [ht] at hP1
  try dsimp only at hw_10
  obtain ⟨hP, hD⟩ := va_join (wr := [(ou, .inl (cL, 1, .inr (.inl of_2)))]) (w1 := []) hP hD [1] [0] rfl rfl (by decide) (by decide) hk1 hFc hP1 hD1
  generalize H1 = H at hP hS ⊢
  have hP : va_P (dC, dI) vwCl [(ou, .inl (cL, 1, .inr (.inl of_2)))] H := hP
  have hD : va_D A [(ou, .inl (cL, 1, .inr (.inl of_2)))] := hD
  obtain rfl : r_9 = 1 := hw_10
  refine lv_iload hx hb dL_law_1135 (lv_at hl 1 rfl) ?_
  refine lv_icmp_eq (tgt := 1142) hx hb dL_law_1137 (by decide) (fun c1137_11 => ?_) (fun c1137_11 => ?_)
  · refine lv_iload hx hb dL_law_1142 (lv_at hl 1 rfl) ?_
    refine lv_if_ne (tgt := 1159) hx hb dL_law_1144 (by decide) (fun c1144_12 => ?_) (fun c1144_12 => ?_)
    · refine lv_goto (tgt := 2778) hx hb dL_law_1159 (by decide) ?_
      refine W.widen (k := 600006) (n := 7302039) (Nat.le_of_ble_eq_true rfl) (Nat.le_of_ble_eq_true rfl) ?_
      exact law_end hx hb hr hml hX hbl hlocks hbA hAo hS (lv_sub hl [2, 7] rfl)
    · exact absurd c1144_12 (by decide)
  · exact (c1137_11 (by decide)).elim

set_option maxHeartbeats 8000000 in
set_option maxRecDepth 100000 in
/-- the law: law_13_certificate -/
theorem law_13_certificate {p : Program} {e : Env} {s : State} {m : MethodId} {below : List Frame} {meth : Method} {c : Code} {l : Launch} {b : Nat} {xs : Nat → Int32} (hx : p.tables.exec = Jvm.exec) (hb : c.code = cL_law) (hr : meth.sig.returnType = ret) (hml : c.maxLocals = 9) (hfl : l.stackTraces = false) (hown : s.vm.findClass RL = some m.cls) (hts : ∀ w ∈ wsL_law, w.before #[Value.ref b] s = true) (hX : va_X b 7 xs s s.heap) (hbl : b < s.heap.size) (hlocks : meth.locks = false) {A : Nat → Prop} (hbA : ¬ A b) (hAo : ∀ q, A q → s.heap.size ≤ q) (hA : ∀ q : Nat, s.heap.size ≤ q → A q) (dC : Nat → ClassId) (dI : Nat → Nat → Nat) (hN : nwA s) (e0 : Nat) (aK aV : Nat → Nat) (hZ : zX A s s.heap ∧ zM e0 aK aV A s s.heap) (ya ms ju rj tj ro rn tn rh th ca sa da xa wb z1 z2 jt z3 br z4 z5 z6 lk z7 z8 li bm l2 z9 bo h2 mm l1 z10 oo h1 ct cr cu cg cp co tg ts tr tk te fw fo fu xm ml cl fl rg tR ou od kn : Nat) (cI cM cS cL cD cB : ClassId) {H : Heap} {locs : List Loc} (hP : va_P (dC, dI) vwCl [(ya, .inr (16, [.ref ms, .int 0, .ref ju, .ref li, .ref ct, .ref tg, .ref fw])), (ou, .inl (cL, 1, .inr (.inl (fun _ => 0)))), (xm, .inr (20, [.int 0, .int 0, .ref kn, .int 0, .int 0, .int 0, .ref ml, .ref cl, .ref rg, .ref tR, .ref (aK 0), .ref (aK 0), .ref fl, .int 0, .int 0, .int 0, .int 0, .int 0, .int 0, .int 0, .null])), (ml, .inr (4, [.int 0, .ref e0, .int 0]))] H) (hD : va_D A [(ya, .inr (16, [.ref ms, .int 0, .ref ju, .ref li, .ref ct, .ref tg, .ref fw])), (ou, .inl (cL, 1, .inr (.inl (fun _ => 0)))), (xm, .inr (20, [.int 0, .int 0, .ref kn, .int 0, .int 0, .int 0, .ref ml, .ref cl, .ref rg, .ref tR, .ref (aK 0), .ref (aK 0), .ref fl, .int 0, .int 0, .int 0, .int 0, .int 0, .int 0, .int 0, .null])), (ml, .inr (4, [.int 0, .ref e0, .int 0]))]) (hK : va_K (dC, dI) vwCl [(cL, .long)] s) (hS : va_S A s.heap H locs) {ls : Array Slot} (hl : lv_has ls 9 [(0, .ref b), (1, .ref ya), (2, .ref xm), (3, .ref ou), (4, .ref od), (5, .int 0)]) : W p l e room_1 s m #[Value.ref b] below meth c H locs 200 60000 (lw_Z below #[Value.ref b] s) (F0 m 1162 ls []) := by
  obtain ⟨s1, hs1⟩ : ∃ z, z = xs ((0 : Int32) + 1).toNatClampNeg := ⟨_, rfl⟩
  obtain ⟨s2, hs2⟩ : ∃ z, z = xs ((0 : Int32) + 2).toNatClampNeg := ⟨_, rfl⟩
  obtain ⟨s3, hs3⟩ : ∃ z, z = xs ((0 : Int32) + 3).toNatClampNeg := ⟨_, rfl⟩
  obtain ⟨s4, hs4⟩ : ∃ z, z = xs ((0 : Int32) + 4).toNatClampNeg := ⟨_, rfl⟩
  obtain ⟨s5, hs5⟩ : ∃ z, z = xs ((0 : Int32) + 5).toNatClampNeg := ⟨_, rfl⟩
  obtain ⟨s6, hs6⟩ : ∃ z, z = xs ((0 : Int32) + 6).toNatClampNeg := ⟨_, rfl⟩
  obtain ⟨k1, hk1⟩ : ∃ z, z = (s1.toUInt32 % 65536).toInt32 := ⟨_, rfl⟩
  obtain ⟨k2, hk2⟩ : ∃ z, z = (s2.toUInt32 % 65536).toInt32 := ⟨_, rfl⟩
  obtain ⟨k3, hk3⟩ : ∃ z, z = (s3.toUInt32 % 65536).toInt32 := ⟨_, rfl⟩
  obtain ⟨k4, hk4⟩ : ∃ z, z = (s4.toUInt32 % 65536).toInt32 := ⟨_, rfl⟩
  obtain ⟨k5, hk5⟩ : ∃ z, z = (s5.toUInt32 % 65536).toInt32 := ⟨_, rfl⟩
  obtain ⟨k6, hk6⟩ : ∃ z, z = (s6.toUInt32 % 65536).toInt32 := ⟨_, rfl⟩
  refine lv_aload_n hx hb dL_law_1162 rfl (lv_at hl 1 rfl) ?_
  refine lv_aload_n hx hb dL_law_1163 rfl (lv_at hl 0 rfl) ?_
  refine lv_iload hx hb dL_law_1164 (lv_at hl 5 rfl) ?_
  refine lv_iconst (v := 1) hx hb dL_law_1166 (by decide) ?_
  refine lv_iadd hx hb dL_law_1167 ?_
  refine va_sld hx hb hX hbl hbA hS sx1 dL_law_1168 ?_
  refine lv_topi (fun x_1 ex_1 => ?_)
  obtain rfl : s1 = x_1 := (ex_1.trans hs1.symm).symm
  refine lv_aload_n hx hb dL_law_1169 rfl (lv_at hl 0 rfl) ?_
  refine lv_iload hx hb dL_law_1170 (lv_at hl 5 rfl) ?_
  refine lv_iconst (v := 2) hx hb dL_law_1172 (by decide) ?_
  refine lv_iadd hx hb dL_law_1173 ?_
  refine va_sld hx hb hX hbl hbA hS sx2 dL_law_1174 ?_
  refine lv_topi (fun x_2 ex_2 => ?_)
  obtain rfl : s2 = x_2 := (ex_2.trans hs2.symm).symm
  refine lv_i2c hx hb dL_law_1175 rfl ?_
  refine lv_topi (fun x_3 ex_3 => ?_)
  obtain rfl : k2 = x_3 := (ex_3.trans hk2.symm).symm
  refine lv_aload_n hx hb dL_law_1176 rfl (lv_at hl 3 rfl) ?_
  have hPc := hP.sub (ws' := [(ya, .inr (16, [.ref ms, .int 0, .ref ju, .ref li, .ref ct, .ref tg, .ref fw])), (ou, .inl (cL, 1, .inr (.inl (fun _ => 0))))]) [0, 1] rfl
  have hDc := hD.sub (ws' := [(ya, .inr (16, [.ref ms, .int 0, .ref ju, .ref li, .ref ct, .ref tg, .ref fw])), (ou, .inl (cL, 1, .inr (.inl (fun _ => 0))))]) [0, 1] (by decide) rfl
  have hKc := hK.sub (tys' := [(cL, .long)]) [0] rfl
  have hFc := va_free (wc := [(ya, .inr (16, [.ref ms, .int 0, .ref ju, .ref li, .ref ct, .ref tg, .ref fw])), (ou, .inl (cL, 1, .inr (.inl (fun _ => 0))))]) hD hS hA [0, 1] rfl
  refine vx_calli (vx_runSX (As := [.ref ya, .int s1, .int k2, .ref ou]) (rest := []) ⟨hx, hb, hml, hown, hts⟩ (c_L_certificate l hfl dC dI ya ms ju li ct tg fw s1 k2 cL ou (fun _ => 0) H.size) (vx_cwSW 4 hts gL_law_L_certificate rfl rfl rfl (by decide +kernel) ⟨Nat.le_of_ble_eq_true rfl, Nat.le_of_ble_eq_true rfl⟩) (pcSz (zX_ok) hPc hDc hKc hN hZ.1 hS hFc) rfl rfl hl.1 rfl (lv_room (Nat.le_of_ble_eq_true rfl)) dL_law_1177 ⟨Nat.le_of_ble_eq_true rfl, Nat.le_of_ble_eq_true rfl⟩) hS (fun q _ h => hFc q h) hFc (fun q _ h => hFc q h) (fun E9 ce9 q9 u9 t9 H9 locs9 ht9 hvm9 hp9 hE9 hz9 hk9 hS9 hc9 hv9 hcl9 => hE9.elim) (fun r_5 u t H1 locs ht hvm hw_6 hB hz1 hk1 hS => ?_)
  obtain of_4 := u
  obtain ⟨hP1, hK1, hD1⟩ := hB
  rw [ht] at hP1
  try dsimp only at hw_6
  obtain ⟨hP, hD⟩ := va_join (wr := [(xm, .inr (20, [.int 0, .int 0, .ref kn, .int 0, .int 0, .int 0, .ref ml, .ref cl, .ref rg, .ref tR, .ref (aK 0), .ref (aK 0), .ref fl, .int 0, .int 0, .int 0, .int 0, .int 0, .int 0, .int 0, .null])), (ml, .inr (4, [.int 0, .ref e0, .int 0]))]) (w1 := [(ou, .inl (cL, 1, .inr (.inl of_4)))]) hP hD [0, 1] [2, 3] rfl rfl (by decide) (by decide) hk1 hFc hP1 hD1
  generalize H1 = H at hP hS ⊢
  have hP : va_P (dC, dI) vwCl [(xm, .inr (20, [.int 0, .int 0, .ref kn, .int 0, .int 0, .int 0, .ref ml, .ref cl, .ref rg, .ref tR, .ref (aK 0), .ref (aK 0), .ref fl, .int 0, .int 0, .int 0, .int 0, .int 0, .int 0, .int 0, .null])), (ml, .inr (4, [.int 0, .ref e0, .int 0])), (ou, .inl (cL, 1, .inr (.inl of_4)))] H := hP
  have hD : va_D A [(xm, .inr (20, [.int 0, .int 0, .ref kn, .int 0, .int 0, .int 0, .ref ml, .ref cl, .ref rg, .ref tR, .ref (aK 0), .ref (aK 0), .ref fl, .int 0, .int 0, .int 0, .int 0, .int 0, .int 0, .int 0, .null])), (ml, .inr (4, [.int 0, .ref e0, .int 0])), (ou, .inl (cL, 1, .inr (.inl of_4)))] := hD
  refine W.widen (k := 201) (n := 60006) (Nat.le_of_ble_eq_true rfl) (Nat.le_of_ble_eq_true rfl) ?_
  obtain rfl : r_5 = 1 := hw_6
  refine lv_istore (lv' := [(6, .int 1), (0, .ref b), (1, .ref ya), (2, .ref xm), (3, .ref ou), (4, .ref od), (5, .int 0)]) hx hb dL_law_1180 hl (by decide) rfl (fun ls hl => ?_)
  refine lv_aload_n hx hb dL_law_1182 rfl (lv_at hl 3 rfl) ?_
  refine lv_aload_n hx hb dL_law_1183 rfl (lv_at hl 1 rfl) ?_
  refine lv_iload hx hb dL_law_1184 (lv_at hl 6 rfl) ?_
  refine lv_iconst (v := 1) hx hb dL_law_1186 (by decide) ?_
  refine lv_iadd hx hb dL_law_1187 ?_
  refine va_sld hx hb hX hbl hbA hS sx1 dL_law_1188 ?_
  refine lv_topi (fun x_7 ex_7 => ?_)
  obtain rfl : s1 = x_7 := (ex_7.trans hs1.symm).symm
  refine lv_aload_n hx hb dL_law_1189 rfl (lv_at hl 1 rfl) ?_
  refine lv_iload hx hb dL_law_1190 (lv_at hl 6 rfl) ?_
  refine lv_iconst (v := 2) hx hb dL_law_1192 (by decide) ?_
  refine lv_iadd hx hb dL_law_1193 ?_
  refine va_sld hx hb hX hbl hbA hS sx2 dL_law_1194 ?_
  refine lv_topi (fun x_8 ex_8 => ?_)
  obtain rfl : s2 = x_8 := (ex_8.trans hs2.symm).symm
  refine lv_i2c hx hb dL_law_1195 rfl ?_
  refine lv_topi (fun x_9 ex_9 => ?_)
  obtain rfl : k2 = x_9 := (ex_9.trans hk2.symm).symm
  have hPc := hP.sub (ws' := [(xm, .inr (20, [.int 0, .int 0, .ref kn, .int 0, .int 0, .int 0, .ref ml, .ref cl, .ref rg, .ref tR, .ref (aK 0), .ref (aK 0), .ref fl, .int 0, .int 0, .int 0, .int 0, .int 0, .int 0, .int 0, .null])), (ml, .inr (4, [.int 0, .ref e0, .int 0]))]) [0, 1] rfl
  have hDc := hD.sub (ws' := [(xm, .inr (20, [.int 0, .int 0, .ref kn, .int 0, .int 0, .int 0, .ref ml, .ref cl, .ref rg, .ref tR, .ref (aK 0), .ref (aK 0), .ref fl, .int 0, .int 0, .int 0, .int 0, .int 0, .int 0, .int 0, .null])), (ml, .inr (4, [.int 0, .ref e0, .int 0]))]) [0, 1] (by decide) rfl
  have hKc := hK.sub (tys' := []) [] rfl
  have hFc := va_free (wc := [(xm, .inr (20, [.int 0, .int 0, .ref kn, .int 0, .int 0, .int 0, .ref ml, .ref cl, .ref rg, .ref tR, .ref (aK 0), .ref (aK 0), .ref fl, .int 0, .int 0, .int 0, .int 0, .int 0, .int 0, .int 0, .null])), (ml, .inr (4, [.int 0, .ref e0, .int 0]))]) hD hS hA [0, 1] rfl
  refine va_calli (va_runV (As := [.int s1, .int k2]) (rest := []) ⟨hx, hb, hml, hown, hts⟩ (c_X15_certificate l dC dI xm ml cl fl kn rg tR e0 aK aV s1 k2 H.size) (cwV 2 hts gL_law_X15_certificate rfl rfl rfl (by decide +kernel) ⟨Nat.le_of_ble_eq_true rfl, Nat.le_of_ble_eq_true rfl⟩) (pcV hPc hDc hKc hN (ci := 20) (q0 := 0) rfl rfl) rfl rfl hl.1 rfl (lv_room (Nat.le_of_ble_eq_true rfl)) dL_law_1196 ⟨Nat.le_of_ble_eq_true rfl, Nat.le_of_ble_eq_true rfl⟩) hS (fun q _ h => hFc q h) hFc (fun r_11 u t H1 locs ht hvm hw_12 hB hz1 hk1 hS => ?_)
  obtain fs_10 := u
  obtain ⟨hP1, hK1, hD1⟩ := hB
  rw [ht] at hP1
  try dsimp only at hw_12
  obtain ⟨hP, hD⟩ := va_join (wr := [(ou, .inl (cL, 1, .inr (.inl of_4)))]) (w1 := [(xm, .inr (20, fs_10))]) hP hD [0, 1] [2] rfl rfl (by decide) (by decide) hk1 hFc hP1 hD1
  generalize H1 = H at hP hS ⊢
  have hP : va_P (dC, dI) vwCl [(ou, .inl (cL, 1, .inr (.inl of_4))), (xm, .inr (20, fs_10))] H := hP
  have hD : va_D A [(ou, .inl (cL, 1, .inr (.inl of_4))), (xm, .inr (20, fs_10))] := hD
  refine lv_istore (lv' := [(7, .int r_11), (6, .int 1), (0, .ref b), (1, .ref ya), (2, .ref xm), (3, .ref ou), (4, .ref od), (5, .int 0)]) hx hb dL_law_1199 hl (by decide) rfl (fun ls hl => ?_)
  refine lv_aload_n hx hb dL_law_1201 rfl (lv_at hl 4 rfl) ?_
  have hPc := hP.sub (ws' := [(xm, .inr (20, fs_10))]) [1] rfl
  have hDc := hD.sub (ws' := [(xm, .inr (20, fs_10))]) [1] (by decide) rfl
  have hKc := hK.sub (tys' := []) [] rfl
  have hFc := va_free (wc := [(xm, .inr (20, fs_10))]) hD hS hA [1] rfl
  refine va_calli (va_runV (As := []) (rest := []) ⟨hx, hb, hml, hown, hts⟩ (c_X15_thrown l dC dI xm fs_10 1 hw_12 H.size) (cwV 0 hts gL_law_X15_thrown rfl rfl rfl (by decide +kernel) ⟨Nat.le_of_ble_eq_true rfl, Nat.le_of_ble_eq_true rfl⟩) (pcV hPc hDc hKc hN (ci := 20) (q0 := 0) rfl rfl) rfl rfl hl.1 rfl (lv_room (Nat.le_of_ble_eq_true rfl)) dL_law_1202 ⟨Nat.le_of_ble_eq_true rfl, Nat.le_of_ble_eq_true rfl⟩) hS (fun q _ h => hFc q h) hFc (fun r_13 u t H1 locs ht hvm hw_14 hB hz1 hk1 hS => ?_)
  obtain ⟨hP1, hK1, hD1⟩ := hB
  rw [ht] at hP1
  try dsimp only at hw_14
  obtain ⟨hP, hD⟩ := va_join (wr := [(ou, .inl (cL, 1, .inr (.inl of_4)))]) (w1 := []) hP hD [1] [0] rfl rfl (by decide) (by decide) hk1 hFc hP1 hD1
  generalize H1 = H at hP hS ⊢
  have hP : va_P (dC, dI) vwCl [(ou, .inl (cL, 1, .inr (.inl of_4)))] H := hP
  have hD : va_D A [(ou, .inl (cL, 1, .inr (.inl of_4)))] := hD
  obtain rfl : r_13 = 1 := hw_14
  refine lv_iload hx hb dL_law_1205 (lv_at hl 1 rfl) ?_
  refine lv_icmp_eq (tgt := 1212) hx hb dL_law_1207 (by decide) (fun c1207_15 => ?_) (fun c1207_15 => ?_)
  · refine lv_iload hx hb dL_law_1212 (lv_at hl 1 rfl) ?_
    refine lv_if_ne (tgt := 1229) hx hb dL_law_1214 (by decide) (fun c1214_16 => ?_) (fun c1214_16 => ?_)
    · refine lv_goto (tgt := 2778) hx hb dL_law_1229 (by decide) ?_
      refine W.widen (k := 600006) (n := 7302039) (Nat.le_of_ble_eq_true rfl) (Nat.le_of_ble_eq_true rfl) ?_
      exact law_end hx hb hr hml hX hbl hlocks hbA hAo hS (lv_sub hl [2, 7] rfl)
    · exact absurd c1214_16 (by decide)
  · exact (c1207_15 (by decide)).elim

set_option maxHeartbeats 8000000 in
set_option maxRecDepth 100000 in
/-- the law: law_14_forge -/
theorem law_14_forge {p : Program} {e : Env} {s : State} {m : MethodId} {below : List Frame} {meth : Method} {c : Code} {l : Launch} {b : Nat} {xs : Nat → Int32} (hx : p.tables.exec = Jvm.exec) (hb : c.code = cL_law) (hr : meth.sig.returnType = ret) (hml : c.maxLocals = 9) (hfl : l.stackTraces = false) (hown : s.vm.findClass RL = some m.cls) (hts : ∀ w ∈ wsL_law, w.before #[Value.ref b] s = true) (hX : va_X b 7 xs s s.heap) (hbl : b < s.heap.size) (hlocks : meth.locks = false) {A : Nat → Prop} (hbA : ¬ A b) (hAo : ∀ q, A q → s.heap.size ≤ q) (hA : ∀ q : Nat, s.heap.size ≤ q → A q) (dC : Nat → ClassId) (dI : Nat → Nat → Nat) (hN : nwA s) (e0 : Nat) (aK aV : Nat → Nat) (hZ : zX A s s.heap ∧ zM e0 aK aV A s s.heap) (ya ms ju rj tj ro rn tn rh th ca sa da xa wb z1 z2 jt z3 br z4 z5 z6 lk z7 z8 li bm l2 z9 bo h2 mm l1 z10 oo h1 ct cr cu cg cp co tg ts tr tk te fw fo fu xm ml cl fl rg tR ou od kn : Nat) (cI cM cS cL cD cB : ClassId) {H : Heap} {locs : List Loc} (hP : va_P (dC, dI) vwCl [(ya, .inr (16, [.ref ms, .int 0, .ref ju, .ref li, .ref ct, .ref tg, .ref fw])), (ou, .inl (cL, 1, .inr (.inl (fun _ => 0)))), (xm, .inr (20, [.int 0, .int 0, .ref kn, .int 0, .int 0, .int 0, .ref ml, .ref cl, .ref rg, .ref tR, .ref (aK 0), .ref (aK 0), .ref fl, .int 0, .int 0, .int 0, .int 0, .int 0, .int 0, .int 0, .null])), (ml, .inr (4, [.int 0, .ref e0, .int 0]))] H) (hD : va_D A [(ya, .inr (16, [.ref ms, .int 0, .ref ju, .ref li, .ref ct, .ref tg, .ref fw])), (ou, .inl (cL, 1, .inr (.inl (fun _ => 0)))), (xm, .inr (20, [.int 0, .int 0, .ref kn, .int 0, .int 0, .int 0, .ref ml, .ref cl, .ref rg, .ref tR, .ref (aK 0), .ref (aK 0), .ref fl, .int 0, .int 0, .int 0, .int 0, .int 0, .int 0, .int 0, .null])), (ml, .inr (4, [.int 0, .ref e0, .int 0]))]) (hK : va_K (dC, dI) vwCl [(cL, .long)] s) (hS : va_S A s.heap H locs) {ls : Array Slot} (hl : lv_has ls 9 [(0, .ref b), (1, .ref ya), (2, .ref xm), (3, .ref ou), (4, .ref od), (5, .int 0)]) : W p l e room_1 s m #[Value.ref b] below meth c H locs 200 60000 (lw_Z below #[Value.ref b] s) (F0 m 1232 ls []) := by
  obtain ⟨s1, hs1⟩ : ∃ z, z = xs ((0 : Int32) + 1).toNatClampNeg := ⟨_, rfl⟩
  obtain ⟨s2, hs2⟩ : ∃ z, z = xs ((0 : Int32) + 2).toNatClampNeg := ⟨_, rfl⟩
  obtain ⟨s3, hs3⟩ : ∃ z, z = xs ((0 : Int32) + 3).toNatClampNeg := ⟨_, rfl⟩
  obtain ⟨s4, hs4⟩ : ∃ z, z = xs ((0 : Int32) + 4).toNatClampNeg := ⟨_, rfl⟩
  obtain ⟨s5, hs5⟩ : ∃ z, z = xs ((0 : Int32) + 5).toNatClampNeg := ⟨_, rfl⟩
  obtain ⟨s6, hs6⟩ : ∃ z, z = xs ((0 : Int32) + 6).toNatClampNeg := ⟨_, rfl⟩
  obtain ⟨k1, hk1⟩ : ∃ z, z = (s1.toUInt32 % 65536).toInt32 := ⟨_, rfl⟩
  obtain ⟨k2, hk2⟩ : ∃ z, z = (s2.toUInt32 % 65536).toInt32 := ⟨_, rfl⟩
  obtain ⟨k3, hk3⟩ : ∃ z, z = (s3.toUInt32 % 65536).toInt32 := ⟨_, rfl⟩
  obtain ⟨k4, hk4⟩ : ∃ z, z = (s4.toUInt32 % 65536).toInt32 := ⟨_, rfl⟩
  obtain ⟨k5, hk5⟩ : ∃ z, z = (s5.toUInt32 % 65536).toInt32 := ⟨_, rfl⟩
  obtain ⟨k6, hk6⟩ : ∃ z, z = (s6.toUInt32 % 65536).toInt32 := ⟨_, rfl⟩
  refine lv_aload_n hx hb dL_law_1232 rfl (lv_at hl 1 rfl) ?_
  refine lv_aload_n hx hb dL_law_1233 rfl (lv_at hl 0 rfl) ?_
  refine lv_iload hx hb dL_law_1234 (lv_at hl 5 rfl) ?_
  refine lv_iconst (v := 1) hx hb dL_law_1236 (by decide) ?_
  refine lv_iadd hx hb dL_law_1237 ?_
  refine va_sld hx hb hX hbl hbA hS sx1 dL_law_1238 ?_
  refine lv_topi (fun x_1 ex_1 => ?_)
  obtain rfl : s1 = x_1 := (ex_1.trans hs1.symm).symm
  refine lv_aload_n hx hb dL_law_1239 rfl (lv_at hl 0 rfl) ?_
  refine lv_iload hx hb dL_law_1240 (lv_at hl 5 rfl) ?_
  refine lv_iconst (v := 2) hx hb dL_law_1242 (by decide) ?_
  refine lv_iadd hx hb dL_law_1243 ?_
  refine va_sld hx hb hX hbl hbA hS sx2 dL_law_1244 ?_
  refine lv_topi (fun x_2 ex_2 => ?_)
  obtain rfl : s2 = x_2 := (ex_2.trans hs2.symm).symm
  refine lv_i2c hx hb dL_law_1245 rfl ?_
  refine lv_topi (fun x_3 ex_3 => ?_)
  obtain rfl : k2 = x_3 := (ex_3.trans hk2.symm).symm
  refine lv_aload_n hx hb dL_law_1246 rfl (lv_at hl 0 rfl) ?_
  refine lv_iload hx hb dL_law_1247 (lv_at hl 5 rfl) ?_
  refine lv_iconst (v := 3) hx hb dL_law_1249 (by decide) ?_
  refine lv_iadd hx hb dL_law_1250 ?_
  refine va_sld hx hb hX hbl hbA hS sx3 dL_law_1251 ?_
  refine lv_topi (fun x_4 ex_4 => ?_)
  obtain rfl : s3 = x_4 := (ex_4.trans hs3.symm).symm
  refine lv_aload_n hx hb dL_law_1252 rfl (lv_at hl 3 rfl) ?_
  have hPc := hP.sub (ws' := [(ya, .inr (16, [.ref ms, .int 0, .ref ju, .ref li, .ref ct, .ref tg, .ref fw])), (ou, .inl (cL, 1, .inr (.inl (fun _ => 0))))]) [0, 1] rfl
  have hDc := hD.sub (ws' := [(ya, .inr (16, [.ref ms, .int 0, .ref ju, .ref li, .ref ct, .ref tg, .ref fw])), (ou, .inl (cL, 1, .inr (.inl (fun _ => 0))))]) [0, 1] (by decide) rfl
  have hKc := hK.sub (tys' := [(cL, .long)]) [0] rfl
  have hFc := va_free (wc := [(ya, .inr (16, [.ref ms, .int 0, .ref ju, .ref li, .ref ct, .ref tg, .ref fw])), (ou, .inl (cL, 1, .inr (.inl (fun _ => 0))))]) hD hS hA [0, 1] rfl
  refine vx_calli (vx_runSX (As := [.ref ya, .int s1, .int k2, .int s3, .ref ou]) (rest := []) ⟨hx, hb, hml, hown, hts⟩ (c_L_forge l hfl dC dI ya ms ju li ct tg fw s1 k2 s3 cL ou (fun _ => 0) H.size) (vx_cwSW 5 hts gL_law_L_forge rfl rfl rfl (by decide +kernel) ⟨Nat.le_of_ble_eq_true rfl, Nat.le_of_ble_eq_true rfl⟩) (pcSz (zX_ok) hPc hDc hKc hN hZ.1 hS hFc) rfl rfl hl.1 rfl (lv_room (Nat.le_of_ble_eq_true rfl)) dL_law_1253 ⟨Nat.le_of_ble_eq_true rfl, Nat.le_of_ble_eq_true rfl⟩) hS (fun q _ h => hFc q h) hFc (fun q _ h => hFc q h) (fun E9 ce9 q9 u9 t9 H9 locs9 ht9 hvm9 hp9 hE9 hz9 hk9 hS9 hc9 hv9 hcl9 => hE9.elim) (fun r_6 u t H1 locs ht hvm hw_7 hB hz1 hk1 hS => ?_)
  obtain of_5 := u
  obtain ⟨hP1, hK1, hD1⟩ := hB
  rw [ht] at hP1
  try dsimp only at hw_7
  obtain ⟨hP, hD⟩ := va_join (wr := [(xm, .inr (20, [.int 0, .int 0, .ref kn, .int 0, .int 0, .int 0, .ref ml, .ref cl, .ref rg, .ref tR, .ref (aK 0), .ref (aK 0), .ref fl, .int 0, .int 0, .int 0, .int 0, .int 0, .int 0, .int 0, .null])), (ml, .inr (4, [.int 0, .ref e0, .int 0]))]) (w1 := [(ou, .inl (cL, 1, .inr (.inl of_5)))]) hP hD [0, 1] [2, 3] rfl rfl (by decide) (by decide) hk1 hFc hP1 hD1
  generalize H1 = H at hP hS ⊢
  have hP : va_P (dC, dI) vwCl [(xm, .inr (20, [.int 0, .int 0, .ref kn, .int 0, .int 0, .int 0, .ref ml, .ref cl, .ref rg, .ref tR, .ref (aK 0), .ref (aK 0), .ref fl, .int 0, .int 0, .int 0, .int 0, .int 0, .int 0, .int 0, .null])), (ml, .inr (4, [.int 0, .ref e0, .int 0])), (ou, .inl (cL, 1, .inr (.inl of_5)))] H := hP
  have hD : va_D A [(xm, .inr (20, [.int 0, .int 0, .ref kn, .int 0, .int 0, .int 0, .ref ml, .ref cl, .ref rg, .ref tR, .ref (aK 0), .ref (aK 0), .ref fl, .int 0, .int 0, .int 0, .int 0, .int 0, .int 0, .int 0, .null])), (ml, .inr (4, [.int 0, .ref e0, .int 0])), (ou, .inl (cL, 1, .inr (.inl of_5)))] := hD
  refine W.widen (k := 201) (n := 60006) (Nat.le_of_ble_eq_true rfl) (Nat.le_of_ble_eq_true rfl) ?_
  obtain rfl : r_6 = 1 := hw_7
  refine lv_istore (lv' := [(6, .int 1), (0, .ref b), (1, .ref ya), (2, .ref xm), (3, .ref ou), (4, .ref od), (5, .int 0)]) hx hb dL_law_1256 hl (by decide) rfl (fun ls hl => ?_)
  refine lv_aload_n hx hb dL_law_1258 rfl (lv_at hl 3 rfl) ?_
  refine lv_aload_n hx hb dL_law_1259 rfl (lv_at hl 1 rfl) ?_
  refine lv_iload hx hb dL_law_1260 (lv_at hl 6 rfl) ?_
  refine lv_iconst (v := 1) hx hb dL_law_1262 (by decide) ?_
  refine lv_iadd hx hb dL_law_1263 ?_
  refine va_sld hx hb hX hbl hbA hS sx1 dL_law_1264 ?_
  refine lv_topi (fun x_8 ex_8 => ?_)
  obtain rfl : s1 = x_8 := (ex_8.trans hs1.symm).symm
  refine lv_aload_n hx hb dL_law_1265 rfl (lv_at hl 1 rfl) ?_
  refine lv_iload hx hb dL_law_1266 (lv_at hl 6 rfl) ?_
  refine lv_iconst (v := 2) hx hb dL_law_1268 (by decide) ?_
  refine lv_iadd hx hb dL_law_1269 ?_
  refine va_sld hx hb hX hbl hbA hS sx2 dL_law_1270 ?_
  refine lv_topi (fun x_9 ex_9 => ?_)
  obtain rfl : s2 = x_9 := (ex_9.trans hs2.symm).symm
  refine lv_i2c hx hb dL_law_1271 rfl ?_
  refine lv_topi (fun x_10 ex_10 => ?_)
  obtain rfl : k2 = x_10 := (ex_10.trans hk2.symm).symm
  refine lv_aload_n hx hb dL_law_1272 rfl (lv_at hl 1 rfl) ?_
  refine lv_iload hx hb dL_law_1273 (lv_at hl 6 rfl) ?_
  refine lv_iconst (v := 3) hx hb dL_law_1275 (by decide) ?_
  refine lv_iadd hx hb dL_law_1276 ?_
  refine va_sld hx hb hX hbl hbA hS sx3 dL_law_1277 ?_
  refine lv_topi (fun x_11 ex_11 => ?_)
  obtain rfl : s3 = x_11 := (ex_11.trans hs3.symm).symm
  have hPc := hP.sub (ws' := [(xm, .inr (20, [.int 0, .int 0, .ref kn, .int 0, .int 0, .int 0, .ref ml, .ref cl, .ref rg, .ref tR, .ref (aK 0), .ref (aK 0), .ref fl, .int 0, .int 0, .int 0, .int 0, .int 0, .int 0, .int 0, .null])), (ml, .inr (4, [.int 0, .ref e0, .int 0]))]) [0, 1] rfl
  have hDc := hD.sub (ws' := [(xm, .inr (20, [.int 0, .int 0, .ref kn, .int 0, .int 0, .int 0, .ref ml, .ref cl, .ref rg, .ref tR, .ref (aK 0), .ref (aK 0), .ref fl, .int 0, .int 0, .int 0, .int 0, .int 0, .int 0, .int 0, .null])), (ml, .inr (4, [.int 0, .ref e0, .int 0]))]) [0, 1] (by decide) rfl
  have hKc := hK.sub (tys' := []) [] rfl
  have hFc := va_free (wc := [(xm, .inr (20, [.int 0, .int 0, .ref kn, .int 0, .int 0, .int 0, .ref ml, .ref cl, .ref rg, .ref tR, .ref (aK 0), .ref (aK 0), .ref fl, .int 0, .int 0, .int 0, .int 0, .int 0, .int 0, .int 0, .null])), (ml, .inr (4, [.int 0, .ref e0, .int 0]))]) hD hS hA [0, 1] rfl
  refine va_calli (va_runV (As := [.int s1, .int k2, .int s3]) (rest := []) ⟨hx, hb, hml, hown, hts⟩ (c_X15_forge l dC dI xm ml cl fl kn rg tR e0 aK aV s1 k2 s3 H.size) (cwV 3 hts gL_law_X15_forge rfl rfl rfl (by decide +kernel) ⟨Nat.le_of_ble_eq_true rfl, Nat.le_of_ble_eq_true rfl⟩) (pcV hPc hDc hKc hN (ci := 20) (q0 := 0) rfl rfl) rfl rfl hl.1 rfl (lv_room (Nat.le_of_ble_eq_true rfl)) dL_law_1278 ⟨Nat.le_of_ble_eq_true rfl, Nat.le_of_ble_eq_true rfl⟩) hS (fun q _ h => hFc q h) hFc (fun r_13 u t H1 locs ht hvm hw_14 hB hz1 hk1 hS => ?_)
  obtain fs_12 := u
  obtain ⟨hP1, hK1, hD1⟩ := hB
  rw [ht] at hP1
  try dsimp only at hw_14
  obtain ⟨hP, hD⟩ := va_join (wr := [(ou, .inl (cL, 1, .inr (.inl of_5)))]) (w1 := [(xm, .inr (20, fs_12))]) hP hD [0, 1] [2] rfl rfl (by decide) (by decide) hk1 hFc hP1 hD1
  generalize H1 = H at hP hS ⊢
  have hP : va_P (dC, dI) vwCl [(ou, .inl (cL, 1, .inr (.inl of_5))), (xm, .inr (20, fs_12))] H := hP
  have hD : va_D A [(ou, .inl (cL, 1, .inr (.inl of_5))), (xm, .inr (20, fs_12))] := hD
  refine lv_istore (lv' := [(7, .int r_13), (6, .int 1), (0, .ref b), (1, .ref ya), (2, .ref xm), (3, .ref ou), (4, .ref od), (5, .int 0)]) hx hb dL_law_1281 hl (by decide) rfl (fun ls hl => ?_)
  refine lv_aload_n hx hb dL_law_1283 rfl (lv_at hl 4 rfl) ?_
  have hPc := hP.sub (ws' := [(xm, .inr (20, fs_12))]) [1] rfl
  have hDc := hD.sub (ws' := [(xm, .inr (20, fs_12))]) [1] (by decide) rfl
  have hKc := hK.sub (tys' := []) [] rfl
  have hFc := va_free (wc := [(xm, .inr (20, fs_12))]) hD hS hA [1] rfl
  refine va_calli (va_runV (As := []) (rest := []) ⟨hx, hb, hml, hown, hts⟩ (c_X15_thrown l dC dI xm fs_12 1 hw_14 H.size) (cwV 0 hts gL_law_X15_thrown rfl rfl rfl (by decide +kernel) ⟨Nat.le_of_ble_eq_true rfl, Nat.le_of_ble_eq_true rfl⟩) (pcV hPc hDc hKc hN (ci := 20) (q0 := 0) rfl rfl) rfl rfl hl.1 rfl (lv_room (Nat.le_of_ble_eq_true rfl)) dL_law_1284 ⟨Nat.le_of_ble_eq_true rfl, Nat.le_of_ble_eq_true rfl⟩) hS (fun q _ h => hFc q h) hFc (fun r_15 u t H1 locs ht hvm hw_16 hB hz1 hk1 hS => ?_)
  obtain ⟨hP1, hK1, hD1⟩ := hB
  rw [ht] at hP1
  try dsimp only at hw_16
  obtain ⟨hP, hD⟩ := va_join (wr := [(ou, .inl (cL, 1, .inr (.inl of_5)))]) (w1 := []) hP hD [1] [0] rfl rfl (by decide) (by decide) hk1 hFc hP1 hD1
  generalize H1 = H at hP hS ⊢
  have hP : va_P (dC, dI) vwCl [(ou, .inl (cL, 1, .inr (.inl of_5)))] H := hP
  have hD : va_D A [(ou, .inl (cL, 1, .inr (.inl of_5)))] := hD
  obtain rfl : r_15 = 1 := hw_16
  refine lv_iload hx hb dL_law_1287 (lv_at hl 1 rfl) ?_
  refine lv_icmp_eq (tgt := 1294) hx hb dL_law_1289 (by decide) (fun c1289_17 => ?_) (fun c1289_17 => ?_)
  · refine lv_iload hx hb dL_law_1294 (lv_at hl 1 rfl) ?_
    refine lv_if_ne (tgt := 1311) hx hb dL_law_1296 (by decide) (fun c1296_18 => ?_) (fun c1296_18 => ?_)
    · refine lv_goto (tgt := 2778) hx hb dL_law_1311 (by decide) ?_
      refine W.widen (k := 600006) (n := 7302039) (Nat.le_of_ble_eq_true rfl) (Nat.le_of_ble_eq_true rfl) ?_
      exact law_end hx hb hr hml hX hbl hlocks hbA hAo hS (lv_sub hl [2, 7] rfl)
    · exact absurd c1296_18 (by decide)
  · exact (c1289_17 (by decide)).elim

set_option maxHeartbeats 8000000 in
set_option maxRecDepth 100000 in
/-- the law: law_15_passes -/
theorem law_15_passes {p : Program} {e : Env} {s : State} {m : MethodId} {below : List Frame} {meth : Method} {c : Code} {l : Launch} {b : Nat} {xs : Nat → Int32} (hx : p.tables.exec = Jvm.exec) (hb : c.code = cL_law) (hr : meth.sig.returnType = ret) (hml : c.maxLocals = 9) (hfl : l.stackTraces = false) (hown : s.vm.findClass RL = some m.cls) (hts : ∀ w ∈ wsL_law, w.before #[Value.ref b] s = true) (hX : va_X b 7 xs s s.heap) (hbl : b < s.heap.size) (hlocks : meth.locks = false) {A : Nat → Prop} (hbA : ¬ A b) (hAo : ∀ q, A q → s.heap.size ≤ q) (hA : ∀ q : Nat, s.heap.size ≤ q → A q) (dC : Nat → ClassId) (dI : Nat → Nat → Nat) (hN : nwA s) (e0 : Nat) (aK aV : Nat → Nat) (hZ : zX A s s.heap ∧ zM e0 aK aV A s s.heap) (ya ms ju rj tj ro rn tn rh th ca sa da xa wb z1 z2 jt z3 br z4 z5 z6 lk z7 z8 li bm l2 z9 bo h2 mm l1 z10 oo h1 ct cr cu cg cp co tg ts tr tk te fw fo fu xm ml cl fl rg tR ou od kn : Nat) (cI cM cS cL cD cB : ClassId) {H : Heap} {locs : List Loc} (hP : va_P (dC, dI) vwCl [(ya, .inr (16, [.ref ms, .int 0, .ref ju, .ref li, .ref ct, .ref tg, .ref fw])), (ou, .inl (cL, 1, .inr (.inl (fun _ => 0)))), (xm, .inr (20, [.int 0, .int 0, .ref kn, .int 0, .int 0, .int 0, .ref ml, .ref cl, .ref rg, .ref tR, .ref (aK 0), .ref (aK 0), .ref fl, .int 0, .int 0, .int 0, .int 0, .int 0, .int 0, .int 0, .null])), (ml, .inr (4, [.int 0, .ref e0, .int 0]))] H) (hD : va_D A [(ya, .inr (16, [.ref ms, .int 0, .ref ju, .ref li, .ref ct, .ref tg, .ref fw])), (ou, .inl (cL, 1, .inr (.inl (fun _ => 0)))), (xm, .inr (20, [.int 0, .int 0, .ref kn, .int 0, .int 0, .int 0, .ref ml, .ref cl, .ref rg, .ref tR, .ref (aK 0), .ref (aK 0), .ref fl, .int 0, .int 0, .int 0, .int 0, .int 0, .int 0, .int 0, .null])), (ml, .inr (4, [.int 0, .ref e0, .int 0]))]) (hK : va_K (dC, dI) vwCl [(cL, .long)] s) (hS : va_S A s.heap H locs) {ls : Array Slot} (hl : lv_has ls 9 [(0, .ref b), (1, .ref ya), (2, .ref xm), (3, .ref ou), (4, .ref od), (5, .int 0)]) : W p l e room_1 s m #[Value.ref b] below meth c H locs 200 60000 (lw_Z below #[Value.ref b] s) (F0 m 1314 ls []) := by
  obtain ⟨s1, hs1⟩ : ∃ z, z = xs ((0 : Int32) + 1).toNatClampNeg := ⟨_, rfl⟩
  obtain ⟨s2, hs2⟩ : ∃ z, z = xs ((0 : Int32) + 2).toNatClampNeg := ⟨_, rfl⟩
  obtain ⟨s3, hs3⟩ : ∃ z, z = xs ((0 : Int32) + 3).toNatClampNeg := ⟨_, rfl⟩
  obtain ⟨s4, hs4⟩ : ∃ z, z = xs ((0 : Int32) + 4).toNatClampNeg := ⟨_, rfl⟩
  obtain ⟨s5, hs5⟩ : ∃ z, z = xs ((0 : Int32) + 5).toNatClampNeg := ⟨_, rfl⟩
  obtain ⟨s6, hs6⟩ : ∃ z, z = xs ((0 : Int32) + 6).toNatClampNeg := ⟨_, rfl⟩
  obtain ⟨k1, hk1⟩ : ∃ z, z = (s1.toUInt32 % 65536).toInt32 := ⟨_, rfl⟩
  obtain ⟨k2, hk2⟩ : ∃ z, z = (s2.toUInt32 % 65536).toInt32 := ⟨_, rfl⟩
  obtain ⟨k3, hk3⟩ : ∃ z, z = (s3.toUInt32 % 65536).toInt32 := ⟨_, rfl⟩
  obtain ⟨k4, hk4⟩ : ∃ z, z = (s4.toUInt32 % 65536).toInt32 := ⟨_, rfl⟩
  obtain ⟨k5, hk5⟩ : ∃ z, z = (s5.toUInt32 % 65536).toInt32 := ⟨_, rfl⟩
  obtain ⟨k6, hk6⟩ : ∃ z, z = (s6.toUInt32 % 65536).toInt32 := ⟨_, rfl⟩
  refine lv_aload_n hx hb dL_law_1314 rfl (lv_at hl 1 rfl) ?_
  refine lv_aload_n hx hb dL_law_1315 rfl (lv_at hl 0 rfl) ?_
  refine lv_iload hx hb dL_law_1316 (lv_at hl 5 rfl) ?_
  refine lv_iconst (v := 1) hx hb dL_law_1318 (by decide) ?_
  refine lv_iadd hx hb dL_law_1319 ?_
  refine va_sld hx hb hX hbl hbA hS sx1 dL_law_1320 ?_
  refine lv_topi (fun x_1 ex_1 => ?_)
  obtain rfl : s1 = x_1 := (ex_1.trans hs1.symm).symm
  refine lv_aload_n hx hb dL_law_1321 rfl (lv_at hl 3 rfl) ?_
  have hPc := hP.sub (ws' := [(ya, .inr (16, [.ref ms, .int 0, .ref ju, .ref li, .ref ct, .ref tg, .ref fw])), (ou, .inl (cL, 1, .inr (.inl (fun _ => 0))))]) [0, 1] rfl
  have hDc := hD.sub (ws' := [(ya, .inr (16, [.ref ms, .int 0, .ref ju, .ref li, .ref ct, .ref tg, .ref fw])), (ou, .inl (cL, 1, .inr (.inl (fun _ => 0))))]) [0, 1] (by decide) rfl
  have hKc := hK.sub (tys' := [(cL, .long)]) [0] rfl
  have hFc := va_free (wc := [(ya, .inr (16, [.ref ms, .int 0, .ref ju, .ref li, .ref ct, .ref tg, .ref fw])), (ou, .inl (cL, 1, .inr (.inl (fun _ => 0))))]) hD hS hA [0, 1] rfl
  refine vx_calli (vx_runSX (As := [.ref ya, .int s1, .ref ou]) (rest := []) ⟨hx, hb, hml, hown, hts⟩ (c_L_passes l hfl dC dI ya ms ju li ct tg fw s1 cL ou (fun _ => 0) H.size) (vx_cwSW 3 hts gL_law_L_passes rfl rfl rfl (by decide +kernel) ⟨Nat.le_of_ble_eq_true rfl, Nat.le_of_ble_eq_true rfl⟩) (pcSz (zX_ok) hPc hDc hKc hN hZ.1 hS hFc) rfl rfl hl.1 rfl (lv_room (Nat.le_of_ble_eq_true rfl)) dL_law_1322 ⟨Nat.le_of_ble_eq_true rfl, Nat.le_of_ble_eq_true rfl⟩) hS (fun q _ h => hFc q h) hFc (fun q _ h => hFc q h) (fun E9 ce9 q9 u9 t9 H9 locs9 ht9 hvm9 hp9 hE9 hz9 hk9 hS9 hc9 hv9 hcl9 => hE9.elim) (fun r_3 u t H1 locs ht hvm hw_4 hB hz1 hk1 hS => ?_)
  obtain of_2 := u
  obtain ⟨hP1, hK1, hD1⟩ := hB
  rw [ht] at hP1
  try dsimp only at hw_4
  obtain ⟨hP, hD⟩ := va_join (wr := [(xm, .inr (20, [.int 0, .int 0, .ref kn, .int 0, .int 0, .int 0, .ref ml, .ref cl, .ref rg, .ref tR, .ref (aK 0), .ref (aK 0), .ref fl, .int 0, .int 0, .int 0, .int 0, .int 0, .int 0, .int 0, .null])), (ml, .inr (4, [.int 0, .ref e0, .int 0]))]) (w1 := [(ou, .inl (cL, 1, .inr (.inl of_2)))]) hP hD [0, 1] [2, 3] rfl rfl (by decide) (by decide) hk1 hFc hP1 hD1
  generalize H1 = H at hP hS ⊢
  have hP : va_P (dC, dI) vwCl [(xm, .inr (20, [.int 0, .int 0, .ref kn, .int 0, .int 0, .int 0, .ref ml, .ref cl, .ref rg, .ref tR, .ref (aK 0), .ref (aK 0), .ref fl, .int 0, .int 0, .int 0, .int 0, .int 0, .int 0, .int 0, .null])), (ml, .inr (4, [.int 0, .ref e0, .int 0])), (ou, .inl (cL, 1, .inr (.inl of_2)))] H := hP
  have hD : va_D A [(xm, .inr (20, [.int 0, .int 0, .ref kn, .int 0, .int 0, .int 0, .ref ml, .ref cl, .ref rg, .ref tR, .ref (aK 0), .ref (aK 0), .ref fl, .int 0, .int 0, .int 0, .int 0, .int 0, .int 0, .int 0, .null])), (ml, .inr (4, [.int 0, .ref e0, .int 0])), (ou, .inl (cL, 1, .inr (.inl of_2)))] := hD
  refine W.widen (k := 201) (n := 60006) (Nat.le_of_ble_eq_true rfl) (Nat.le_of_ble_eq_true rfl) ?_
  obtain rfl : r_3 = 1 := hw_4
  refine lv_istore (lv' := [(6, .int 1), (0, .ref b), (1, .ref ya), (2, .ref xm), (3, .ref ou), (4, .ref od), (5, .int 0)]) hx hb dL_law_1325 hl (by decide) rfl (fun ls hl => ?_)
  refine lv_aload_n hx hb dL_law_1327 rfl (lv_at hl 3 rfl) ?_
  refine lv_aload_n hx hb dL_law_1328 rfl (lv_at hl 1 rfl) ?_
  refine lv_iload hx hb dL_law_1329 (lv_at hl 6 rfl) ?_
  refine lv_iconst (v := 1) hx hb dL_law_1331 (by decide) ?_
  refine lv_iadd hx hb dL_law_1332 ?_
  refine va_sld hx hb hX hbl hbA hS sx1 dL_law_1333 ?_
  refine lv_topi (fun x_5 ex_5 => ?_)
  obtain rfl : s1 = x_5 := (ex_5.trans hs1.symm).symm
  have hPc := hP.sub (ws' := [(xm, .inr (20, [.int 0, .int 0, .ref kn, .int 0, .int 0, .int 0, .ref ml, .ref cl, .ref rg, .ref tR, .ref (aK 0), .ref (aK 0), .ref fl, .int 0, .int 0, .int 0, .int 0, .int 0, .int 0, .int 0, .null])), (ml, .inr (4, [.int 0, .ref e0, .int 0]))]) [0, 1] rfl
  have hDc := hD.sub (ws' := [(xm, .inr (20, [.int 0, .int 0, .ref kn, .int 0, .int 0, .int 0, .ref ml, .ref cl, .ref rg, .ref tR, .ref (aK 0), .ref (aK 0), .ref fl, .int 0, .int 0, .int 0, .int 0, .int 0, .int 0, .int 0, .null])), (ml, .inr (4, [.int 0, .ref e0, .int 0]))]) [0, 1] (by decide) rfl
  have hKc := hK.sub (tys' := []) [] rfl
  have hFc := va_free (wc := [(xm, .inr (20, [.int 0, .int 0, .ref kn, .int 0, .int 0, .int 0, .ref ml, .ref cl, .ref rg, .ref tR, .ref (aK 0), .ref (aK 0), .ref fl, .int 0, .int 0, .int 0, .int 0, .int 0, .int 0, .int 0, .null])), (ml, .inr (4, [.int 0, .ref e0, .int 0]))]) hD hS hA [0, 1] rfl
  refine va_calli (va_runV (As := [.int s1]) (rest := []) ⟨hx, hb, hml, hown, hts⟩ (c_X15_passes l dC dI xm ml cl fl kn rg tR e0 aK aV s1 H.size) (cwV 1 hts gL_law_X15_passes rfl rfl rfl (by decide +kernel) ⟨Nat.le_of_ble_eq_true rfl, Nat.le_of_ble_eq_true rfl⟩) (pcV hPc hDc hKc hN (ci := 20) (q0 := 0) rfl rfl) rfl rfl hl.1 rfl (lv_room (Nat.le_of_ble_eq_true rfl)) dL_law_1334 ⟨Nat.le_of_ble_eq_true rfl, Nat.le_of_ble_eq_true rfl⟩) hS (fun q _ h => hFc q h) hFc (fun r_7 u t H1 locs ht hvm hw_8 hB hz1 hk1 hS => ?_)
  obtain fs_6 := u
  obtain ⟨hP1, hK1, hD1⟩ := hB
  rw [ht] at hP1
  try dsimp only at hw_8
  obtain ⟨hP, hD⟩ := va_join (wr := [(ou, .inl (cL, 1, .inr (.inl of_2)))]) (w1 := [(xm, .inr (20, fs_6))]) hP hD [0, 1] [2] rfl rfl (by decide) (by decide) hk1 hFc hP1 hD1
  generalize H1 = H at hP hS ⊢
  have hP : va_P (dC, dI) vwCl [(ou, .inl (cL, 1, .inr (.inl of_2))), (xm, .inr (20, fs_6))] H := hP
  have hD : va_D A [(ou, .inl (cL, 1, .inr (.inl of_2))), (xm, .inr (20, fs_6))] := hD
  refine lv_istore (lv' := [(7, .int r_7), (6, .int 1), (0, .ref b), (1, .ref ya), (2, .ref xm), (3, .ref ou), (4, .ref od), (5, .int 0)]) hx hb dL_law_1337 hl (by decide) rfl (fun ls hl => ?_)
  refine lv_aload_n hx hb dL_law_1339 rfl (lv_at hl 4 rfl) ?_
  have hPc := hP.sub (ws' := [(xm, .inr (20, fs_6))]) [1] rfl
  have hDc := hD.sub (ws' := [(xm, .inr (20, fs_6))]) [1] (by decide) rfl
  have hKc := hK.sub (tys' := []) [] rfl
  have hFc := va_free (wc := [(xm, .inr (20, fs_6))]) hD hS hA [1] rfl
  refine va_calli (va_runV (As := []) (rest := []) ⟨hx, hb, hml, hown, hts⟩ (c_X15_thrown l dC dI xm fs_6 1 hw_8 H.size) (cwV 0 hts gL_law_X15_thrown rfl rfl rfl (by decide +kernel) ⟨Nat.le_of_ble_eq_true rfl, Nat.le_of_ble_eq_true rfl⟩) (pcV hPc hDc hKc hN (ci := 20) (q0 := 0) rfl rfl) rfl rfl hl.1 rfl (lv_room (Nat.le_of_ble_eq_true rfl)) dL_law_1340 ⟨Nat.le_of_ble_eq_true rfl, Nat.le_of_ble_eq_true rfl⟩) hS (fun q _ h => hFc q h) hFc (fun r_9 u t H1 locs ht hvm hw_10 hB hz1 hk1 hS => ?_)
  obtain ⟨hP1, hK1, hD1⟩ := hB
  rw [ht] at hP1
  try dsimp only at hw_10
  obtain ⟨hP, hD⟩ := va_join (wr := [(ou, .inl (cL, 1, .inr (.inl of_2)))]) (w1 := []) hP hD [1] [0] rfl rfl (by decide) (by decide) hk1 hFc hP1 hD1
  generalize H1 = H at hP hS ⊢
  have hP : va_P (dC, dI) vwCl [(ou, .inl (cL, 1, .inr (.inl of_2)))] H := hP
  have hD : va_D A [(ou, .inl (cL, 1, .inr (.inl of_2)))] := hD
  obtain rfl : r_9 = 1 := hw_10
  refine lv_iload hx hb dL_law_1343 (lv_at hl 1 rfl) ?_
  refine lv_icmp_eq (tgt := 1350) hx hb dL_law_1345 (by decide) (fun c1345_11 => ?_) (fun c1345_11 => ?_)
  · refine lv_iload hx hb dL_law_1350 (lv_at hl 1 rfl) ?_
    refine lv_if_ne (tgt := 1374) hx hb dL_law_1352 (by decide) (fun c1352_12 => ?_) (fun c1352_12 => ?_)
    · refine lv_goto (tgt := 2778) hx hb dL_law_1374 (by decide) ?_
      refine W.widen (k := 600006) (n := 7302039) (Nat.le_of_ble_eq_true rfl) (Nat.le_of_ble_eq_true rfl) ?_
      exact law_end hx hb hr hml hX hbl hlocks hbA hAo hS (lv_sub hl [2, 7] rfl)
    · exact absurd c1352_12 (by decide)
  · exact (c1345_11 (by decide)).elim

set_option maxHeartbeats 8000000 in
set_option maxRecDepth 100000 in
/-- the law: law_16_ways -/
theorem law_16_ways {p : Program} {e : Env} {s : State} {m : MethodId} {below : List Frame} {meth : Method} {c : Code} {l : Launch} {b : Nat} {xs : Nat → Int32} (hx : p.tables.exec = Jvm.exec) (hb : c.code = cL_law) (hr : meth.sig.returnType = ret) (hml : c.maxLocals = 9) (hfl : l.stackTraces = false) (hown : s.vm.findClass RL = some m.cls) (hts : ∀ w ∈ wsL_law, w.before #[Value.ref b] s = true) (hX : va_X b 7 xs s s.heap) (hbl : b < s.heap.size) (hlocks : meth.locks = false) {A : Nat → Prop} (hbA : ¬ A b) (hAo : ∀ q, A q → s.heap.size ≤ q) (hA : ∀ q : Nat, s.heap.size ≤ q → A q) (dC : Nat → ClassId) (dI : Nat → Nat → Nat) (hN : nwA s) (e0 : Nat) (aK aV : Nat → Nat) (hZ : zX A s s.heap ∧ zM e0 aK aV A s s.heap) (ya ms ju rj tj ro rn tn rh th ca sa da xa wb z1 z2 jt z3 br z4 z5 z6 lk z7 z8 li bm l2 z9 bo h2 mm l1 z10 oo h1 ct cr cu cg cp co tg ts tr tk te fw fo fu xm ml cl fl rg tR ou od kn : Nat) (cI cM cS cL cD cB : ClassId) {H : Heap} {locs : List Loc} (hP : va_P (dC, dI) vwCl [(ya, .inr (16, [.ref ms, .int 0, .ref ju, .ref li, .ref ct, .ref tg, .ref fw])), (ou, .inl (cL, 1, .inr (.inl (fun _ => 0)))), (xm, .inr (20, [.int 0, .int 0, .ref kn, .int 0, .int 0, .int 0, .ref ml, .ref cl, .ref rg, .ref tR, .ref (aK 0), .ref (aK 0), .ref fl, .int 0, .int 0, .int 0, .int 0, .int 0, .int 0, .int 0, .null])), (ml, .inr (4, [.int 0, .ref e0, .int 0]))] H) (hD : va_D A [(ya, .inr (16, [.ref ms, .int 0, .ref ju, .ref li, .ref ct, .ref tg, .ref fw])), (ou, .inl (cL, 1, .inr (.inl (fun _ => 0)))), (xm, .inr (20, [.int 0, .int 0, .ref kn, .int 0, .int 0, .int 0, .ref ml, .ref cl, .ref rg, .ref tR, .ref (aK 0), .ref (aK 0), .ref fl, .int 0, .int 0, .int 0, .int 0, .int 0, .int 0, .int 0, .null])), (ml, .inr (4, [.int 0, .ref e0, .int 0]))]) (hK : va_K (dC, dI) vwCl [(cL, .long)] s) (hS : va_S A s.heap H locs) {ls : Array Slot} (hl : lv_has ls 9 [(0, .ref b), (1, .ref ya), (2, .ref xm), (3, .ref ou), (4, .ref od), (5, .int 0)]) : W p l e room_1 s m #[Value.ref b] below meth c H locs 200 60000 (lw_Z below #[Value.ref b] s) (F0 m 1377 ls []) := by
  obtain ⟨s1, hs1⟩ : ∃ z, z = xs ((0 : Int32) + 1).toNatClampNeg := ⟨_, rfl⟩
  obtain ⟨s2, hs2⟩ : ∃ z, z = xs ((0 : Int32) + 2).toNatClampNeg := ⟨_, rfl⟩
  obtain ⟨s3, hs3⟩ : ∃ z, z = xs ((0 : Int32) + 3).toNatClampNeg := ⟨_, rfl⟩
  obtain ⟨s4, hs4⟩ : ∃ z, z = xs ((0 : Int32) + 4).toNatClampNeg := ⟨_, rfl⟩
  obtain ⟨s5, hs5⟩ : ∃ z, z = xs ((0 : Int32) + 5).toNatClampNeg := ⟨_, rfl⟩
  obtain ⟨s6, hs6⟩ : ∃ z, z = xs ((0 : Int32) + 6).toNatClampNeg := ⟨_, rfl⟩
  obtain ⟨k1, hk1⟩ : ∃ z, z = (s1.toUInt32 % 65536).toInt32 := ⟨_, rfl⟩
  obtain ⟨k2, hk2⟩ : ∃ z, z = (s2.toUInt32 % 65536).toInt32 := ⟨_, rfl⟩
  obtain ⟨k3, hk3⟩ : ∃ z, z = (s3.toUInt32 % 65536).toInt32 := ⟨_, rfl⟩
  obtain ⟨k4, hk4⟩ : ∃ z, z = (s4.toUInt32 % 65536).toInt32 := ⟨_, rfl⟩
  obtain ⟨k5, hk5⟩ : ∃ z, z = (s5.toUInt32 % 65536).toInt32 := ⟨_, rfl⟩
  obtain ⟨k6, hk6⟩ : ∃ z, z = (s6.toUInt32 % 65536).toInt32 := ⟨_, rfl⟩
  refine lv_aload_n hx hb dL_law_1377 rfl (lv_at hl 1 rfl) ?_
  refine lv_aload_n hx hb dL_law_1378 rfl (lv_at hl 0 rfl) ?_
  refine lv_iload hx hb dL_law_1379 (lv_at hl 5 rfl) ?_
  refine lv_iconst (v := 1) hx hb dL_law_1381 (by decide) ?_
  refine lv_iadd hx hb dL_law_1382 ?_
  refine va_sld hx hb hX hbl hbA hS sx1 dL_law_1383 ?_
  refine lv_topi (fun x_1 ex_1 => ?_)
  obtain rfl : s1 = x_1 := (ex_1.trans hs1.symm).symm
  refine lv_aload_n hx hb dL_law_1384 rfl (lv_at hl 0 rfl) ?_
  refine lv_iload hx hb dL_law_1385 (lv_at hl 5 rfl) ?_
  refine lv_iconst (v := 2) hx hb dL_law_1387 (by decide) ?_
  refine lv_iadd hx hb dL_law_1388 ?_
  refine va_sld hx hb hX hbl hbA hS sx2 dL_law_1389 ?_
  refine lv_topi (fun x_2 ex_2 => ?_)
  obtain rfl : s2 = x_2 := (ex_2.trans hs2.symm).symm
  refine lv_aload_n hx hb dL_law_1390 rfl (lv_at hl 3 rfl) ?_
  have hPc := hP.sub (ws' := [(ya, .inr (16, [.ref ms, .int 0, .ref ju, .ref li, .ref ct, .ref tg, .ref fw])), (ou, .inl (cL, 1, .inr (.inl (fun _ => 0))))]) [0, 1] rfl
  have hDc := hD.sub (ws' := [(ya, .inr (16, [.ref ms, .int 0, .ref ju, .ref li, .ref ct, .ref tg, .ref fw])), (ou, .inl (cL, 1, .inr (.inl (fun _ => 0))))]) [0, 1] (by decide) rfl
  have hKc := hK.sub (tys' := [(cL, .long)]) [0] rfl
  have hFc := va_free (wc := [(ya, .inr (16, [.ref ms, .int 0, .ref ju, .ref li, .ref ct, .ref tg, .ref fw])), (ou, .inl (cL, 1, .inr (.inl (fun _ => 0))))]) hD hS hA [0, 1] rfl
  refine vx_calli (vx_runSX (As := [.ref ya, .int s1, .int s2, .ref ou]) (rest := []) ⟨hx, hb, hml, hown, hts⟩ (c_L_ways l hfl dC dI ya ms ju li ct tg fw s1 s2 cL ou (fun _ => 0) H.size) (vx_cwSW 4 hts gL_law_L_ways rfl rfl rfl (by decide +kernel) ⟨Nat.le_of_ble_eq_true rfl, Nat.le_of_ble_eq_true rfl⟩) (pcSz (zX_ok) hPc hDc hKc hN hZ.1 hS hFc) rfl rfl hl.1 rfl (lv_room (Nat.le_of_ble_eq_true rfl)) dL_law_1391 ⟨Nat.le_of_ble_eq_true rfl, Nat.le_of_ble_eq_true rfl⟩) hS (fun q _ h => hFc q h) hFc (fun q _ h => hFc q h) (fun E9 ce9 q9 u9 t9 H9 locs9 ht9 hvm9 hp9 hE9 hz9 hk9 hS9 hc9 hv9 hcl9 => hE9.elim) (fun r_4 u t H1 locs ht hvm hw_5 hB hz1 hk1 hS => ?_)
  obtain of_3 := u
  obtain ⟨hP1, hK1, hD1⟩ := hB
  rw [ht] at hP1
  try dsimp only at hw_5
  obtain ⟨hP, hD⟩ := va_join (wr := [(xm, .inr (20, [.int 0, .int 0, .ref kn, .int 0, .int 0, .int 0, .ref ml, .ref cl, .ref rg, .ref tR, .ref (aK 0), .ref (aK 0), .ref fl, .int 0, .int 0, .int 0, .int 0, .int 0, .int 0, .int 0, .null])), (ml, .inr (4, [.int 0, .ref e0, .int 0]))]) (w1 := [(ou, .inl (cL, 1, .inr (.inl of_3)))]) hP hD [0, 1] [2, 3] rfl rfl (by decide) (by decide) hk1 hFc hP1 hD1
  generalize H1 = H at hP hS ⊢
  have hP : va_P (dC, dI) vwCl [(xm, .inr (20, [.int 0, .int 0, .ref kn, .int 0, .int 0, .int 0, .ref ml, .ref cl, .ref rg, .ref tR, .ref (aK 0), .ref (aK 0), .ref fl, .int 0, .int 0, .int 0, .int 0, .int 0, .int 0, .int 0, .null])), (ml, .inr (4, [.int 0, .ref e0, .int 0])), (ou, .inl (cL, 1, .inr (.inl of_3)))] H := hP
  have hD : va_D A [(xm, .inr (20, [.int 0, .int 0, .ref kn, .int 0, .int 0, .int 0, .ref ml, .ref cl, .ref rg, .ref tR, .ref (aK 0), .ref (aK 0), .ref fl, .int 0, .int 0, .int 0, .int 0, .int 0, .int 0, .int 0, .null])), (ml, .inr (4, [.int 0, .ref e0, .int 0])), (ou, .inl (cL, 1, .inr (.inl of_3)))] := hD
  refine W.widen (k := 201) (n := 60006) (Nat.le_of_ble_eq_true rfl) (Nat.le_of_ble_eq_true rfl) ?_
  obtain rfl : r_4 = 1 := hw_5
  refine lv_istore (lv' := [(6, .int 1), (0, .ref b), (1, .ref ya), (2, .ref xm), (3, .ref ou), (4, .ref od), (5, .int 0)]) hx hb dL_law_1394 hl (by decide) rfl (fun ls hl => ?_)
  refine lv_aload_n hx hb dL_law_1396 rfl (lv_at hl 3 rfl) ?_
  refine lv_aload_n hx hb dL_law_1397 rfl (lv_at hl 1 rfl) ?_
  refine lv_iload hx hb dL_law_1398 (lv_at hl 6 rfl) ?_
  refine lv_iconst (v := 1) hx hb dL_law_1400 (by decide) ?_
  refine lv_iadd hx hb dL_law_1401 ?_
  refine va_sld hx hb hX hbl hbA hS sx1 dL_law_1402 ?_
  refine lv_topi (fun x_6 ex_6 => ?_)
  obtain rfl : s1 = x_6 := (ex_6.trans hs1.symm).symm
  refine lv_aload_n hx hb dL_law_1403 rfl (lv_at hl 1 rfl) ?_
  refine lv_iload hx hb dL_law_1404 (lv_at hl 6 rfl) ?_
  refine lv_iconst (v := 2) hx hb dL_law_1406 (by decide) ?_
  refine lv_iadd hx hb dL_law_1407 ?_
  refine va_sld hx hb hX hbl hbA hS sx2 dL_law_1408 ?_
  refine lv_topi (fun x_7 ex_7 => ?_)
  obtain rfl : s2 = x_7 := (ex_7.trans hs2.symm).symm
  have hPc := hP.sub (ws' := [(xm, .inr (20, [.int 0, .int 0, .ref kn, .int 0, .int 0, .int 0, .ref ml, .ref cl, .ref rg, .ref tR, .ref (aK 0), .ref (aK 0), .ref fl, .int 0, .int 0, .int 0, .int 0, .int 0, .int 0, .int 0, .null])), (ml, .inr (4, [.int 0, .ref e0, .int 0]))]) [0, 1] rfl
  have hDc := hD.sub (ws' := [(xm, .inr (20, [.int 0, .int 0, .ref kn, .int 0, .int 0, .int 0, .ref ml, .ref cl, .ref rg, .ref tR, .ref (aK 0), .ref (aK 0), .ref fl, .int 0, .int 0, .int 0, .int 0, .int 0, .int 0, .int 0, .null])), (ml, .inr (4, [.int 0, .ref e0, .int 0]))]) [0, 1] (by decide) rfl
  have hKc := hK.sub (tys' := []) [] rfl
  have hFc := va_free (wc := [(xm, .inr (20, [.int 0, .int 0, .ref kn, .int 0, .int 0, .int 0, .ref ml, .ref cl, .ref rg, .ref tR, .ref (aK 0), .ref (aK 0), .ref fl, .int 0, .int 0, .int 0, .int 0, .int 0, .int 0, .int 0, .null])), (ml, .inr (4, [.int 0, .ref e0, .int 0]))]) hD hS hA [0, 1] rfl
  refine va_calli (va_runV (As := [.int s1, .int s2]) (rest := []) ⟨hx, hb, hml, hown, hts⟩ (c_X15_ways l dC dI xm ml cl fl kn rg tR e0 aK aV s1 s2 H.size) (cwV 2 hts gL_law_X15_ways rfl rfl rfl (by decide +kernel) ⟨Nat.le_of_ble_eq_true rfl, Nat.le_of_ble_eq_true rfl⟩) (pcV hPc hDc hKc hN (ci := 20) (q0 := 0) rfl rfl) rfl rfl hl.1 rfl (lv_room (Nat.le_of_ble_eq_true rfl)) dL_law_1409 ⟨Nat.le_of_ble_eq_true rfl, Nat.le_of_ble_eq_true rfl⟩) hS (fun q _ h => hFc q h) hFc (fun r_9 u t H1 locs ht hvm hw_10 hB hz1 hk1 hS => ?_)
  obtain fs_8 := u
  obtain ⟨hP1, hK1, hD1⟩ := hB
  rw [ht] at hP1
  try dsimp only at hw_10
  obtain ⟨hP, hD⟩ := va_join (wr := [(ou, .inl (cL, 1, .inr (.inl of_3)))]) (w1 := [(xm, .inr (20, fs_8))]) hP hD [0, 1] [2] rfl rfl (by decide) (by decide) hk1 hFc hP1 hD1
  generalize H1 = H at hP hS ⊢
  have hP : va_P (dC, dI) vwCl [(ou, .inl (cL, 1, .inr (.inl of_3))), (xm, .inr (20, fs_8))] H := hP
  have hD : va_D A [(ou, .inl (cL, 1, .inr (.inl of_3))), (xm, .inr (20, fs_8))] := hD
  refine lv_istore (lv' := [(7, .int r_9), (6, .int 1), (0, .ref b), (1, .ref ya), (2, .ref xm), (3, .ref ou), (4, .ref od), (5, .int 0)]) hx hb dL_law_1412 hl (by decide) rfl (fun ls hl => ?_)
  refine lv_aload_n hx hb dL_law_1414 rfl (lv_at hl 4 rfl) ?_
  have hPc := hP.sub (ws' := [(xm, .inr (20, fs_8))]) [1] rfl
  have hDc := hD.sub (ws' := [(xm, .inr (20, fs_8))]) [1] (by decide) rfl
  have hKc := hK.sub (tys' := []) [] rfl
  have hFc := va_free (wc := [(xm, .inr (20, fs_8))]) hD hS hA [1] rfl
  refine va_calli (va_runV (As := []) (rest := []) ⟨hx, hb, hml, hown, hts⟩ (c_X15_thrown l dC dI xm fs_8 1 hw_10 H.size) (cwV 0 hts gL_law_X15_thrown rfl rfl rfl (by decide +kernel) ⟨Nat.le_of_ble_eq_true rfl, Nat.le_of_ble_eq_true rfl⟩) (pcV hPc hDc hKc hN (ci := 20) (q0 := 0) rfl rfl) rfl rfl hl.1 rfl (lv_room (Nat.le_of_ble_eq_true rfl)) dL_law_1415 ⟨Nat.le_of_ble_eq_true rfl, Nat.le_of_ble_eq_true rfl⟩) hS (fun q _ h => hFc q h) hFc (fun r_11 u t H1 locs ht hvm hw_12 hB hz1 hk1 hS => ?_)
  obtain ⟨hP1, hK1, hD1⟩ := hB
  rw [ht] at hP1
  try dsimp only at hw_12
  obtain ⟨hP, hD⟩ := va_join (wr := [(ou, .inl (cL, 1, .inr (.inl of_3)))]) (w1 := []) hP hD [1] [0] rfl rfl (by decide) (by decide) hk1 hFc hP1 hD1
  generalize H1 = H at hP hS ⊢
  have hP : va_P (dC, dI) vwCl [(ou, .inl (cL, 1, .inr (.inl of_3)))] H := hP
  have hD : va_D A [(ou, .inl (cL, 1, .inr (.inl of_3)))] := hD
  obtain rfl : r_11 = 1 := hw_12
  refine lv_iload hx hb dL_law_1418 (lv_at hl 1 rfl) ?_
  refine lv_icmp_eq (tgt := 1425) hx hb dL_law_1420 (by decide) (fun c1420_13 => ?_) (fun c1420_13 => ?_)
  · refine lv_iload hx hb dL_law_1425 (lv_at hl 1 rfl) ?_
    refine lv_if_ne (tgt := 1442) hx hb dL_law_1427 (by decide) (fun c1427_14 => ?_) (fun c1427_14 => ?_)
    · refine lv_goto (tgt := 2778) hx hb dL_law_1442 (by decide) ?_
      refine W.widen (k := 600006) (n := 7302039) (Nat.le_of_ble_eq_true rfl) (Nat.le_of_ble_eq_true rfl) ?_
      exact law_end hx hb hr hml hX hbl hlocks hbA hAo hS (lv_sub hl [2, 7] rfl)
    · exact absurd c1427_14 (by decide)
  · exact (c1420_13 (by decide)).elim

set_option maxHeartbeats 8000000 in
set_option maxRecDepth 100000 in
/-- the law: law_17_listed -/
theorem law_17_listed {p : Program} {e : Env} {s : State} {m : MethodId} {below : List Frame} {meth : Method} {c : Code} {l : Launch} {b : Nat} {xs : Nat → Int32} (hx : p.tables.exec = Jvm.exec) (hb : c.code = cL_law) (hr : meth.sig.returnType = ret) (hml : c.maxLocals = 9) (hfl : l.stackTraces = false) (hown : s.vm.findClass RL = some m.cls) (hts : ∀ w ∈ wsL_law, w.before #[Value.ref b] s = true) (hX : va_X b 7 xs s s.heap) (hbl : b < s.heap.size) (hlocks : meth.locks = false) {A : Nat → Prop} (hbA : ¬ A b) (hAo : ∀ q, A q → s.heap.size ≤ q) (hA : ∀ q : Nat, s.heap.size ≤ q → A q) (dC : Nat → ClassId) (dI : Nat → Nat → Nat) (hN : nwA s) (e0 : Nat) (aK aV : Nat → Nat) (hZ : zX A s s.heap ∧ zM e0 aK aV A s s.heap) (ya ms ju rj tj ro rn tn rh th ca sa da xa wb z1 z2 jt z3 br z4 z5 z6 lk z7 z8 li bm l2 z9 bo h2 mm l1 z10 oo h1 ct cr cu cg cp co tg ts tr tk te fw fo fu xm ml cl fl rg tR ou od kn : Nat) (cI cM cS cL cD cB : ClassId) {H : Heap} {locs : List Loc} (hP : va_P (dC, dI) vwCl [(ya, .inr (16, [.ref ms, .int 0, .ref ju, .ref li, .ref ct, .ref tg, .ref fw])), (li, .inr (8, [.ref bm, .int 0, .int 0, .int 0, .int 0, .int 0, .int 0, .int 0, .ref mm])), (bm, .inr (10, [.int 0, .int 2, .int 2, .ref l2, .int 0, .int 0, .int 63, .int 0, .int 0, .ref bo, .ref h2])), (bo, .inl (cI, 24, .inl (fun _ => 0))), (mm, .inr (10, [.int 0, .int 2, .int 2, .ref l1, .int 0, .int 0, .int 63, .int 0, .int 0, .ref oo, .ref h1])), (oo, .inl (cI, 24, .inl (fun _ => 0))), (ju, .inr (7, [.ref rj, .ref ro, .ref wb, .ref jt, .ref br, .ref lk])), (rj, .inr (12, [.int 0, .int 0, .int 0, .int 0, .int 0, .int 0, .ref tj])), (tj, .inl (cI, 1001, .inl (fun _ => 0))), (ro, .inr (11, [.int 0, .int 0, .ref rn, .ref rh, .int 0, .ref ca, .ref sa, .ref da, .ref xa])), (rn, .inr (12, [.int 0, .int 0, .int 0, .int 0, .int 0, .int 0, .ref tn])), (tn, .inl (cI, 1001, .inl (fun _ => 0))), (rh, .inr (12, [.int 0, .int 0, .int 0, .int 0, .int 0, .int 0, .ref th])), (th, .inl (cI, 1001, .inl (fun _ => 0))), (ca, .inl (cI, 501, .inl (fun _ => 0))), (sa, .inl (cI, 501, .inl (fun _ => 0))), (da, .inl (cI, 501, .inl (fun _ => 0))), (xa, .inl (cI, 501, .inl (fun _ => 0))), (ou, .inl (cL, 1, .inr (.inl (fun _ => 0)))), (xm, .inr (20, [.int 0, .int 0, .ref kn, .int 0, .int 0, .int 0, .ref ml, .ref cl, .ref rg, .ref tR, .ref (aK 0), .ref (aK 0), .ref fl, .int 0, .int 0, .int 0, .int 0, .int 0, .int 0, .int 0, .null]))] H) (hD : va_D A [(ya, .inr (16, [.ref ms, .int 0, .ref ju, .ref li, .ref ct, .ref tg, .ref fw])), (li, .inr (8, [.ref bm, .int 0, .int 0, .int 0, .int 0, .int 0, .int 0, .int 0, .ref mm])), (bm, .inr (10, [.int 0, .int 2, .int 2, .ref l2, .int 0, .int 0, .int 63, .int 0, .int 0, .ref bo, .ref h2])), (bo, .inl (cI, 24, .inl (fun _ => 0))), (mm, .inr (10, [.int 0, .int 2, .int 2, .ref l1, .int 0, .int 0, .int 63, .int 0, .int 0, .ref oo, .ref h1])), (oo, .inl (cI, 24, .inl (fun _ => 0))), (ju, .inr (7, [.ref rj, .ref ro, .ref wb, .ref jt, .ref br, .ref lk])), (rj, .inr (12, [.int 0, .int 0, .int 0, .int 0, .int 0, .int 0, .ref tj])), (tj, .inl (cI, 1001, .inl (fun _ => 0))), (ro, .inr (11, [.int 0, .int 0, .ref rn, .ref rh, .int 0, .ref ca, .ref sa, .ref da, .ref xa])), (rn, .inr (12, [.int 0, .int 0, .int 0, .int 0, .int 0, .int 0, .ref tn])), (tn, .inl (cI, 1001, .inl (fun _ => 0))), (rh, .inr (12, [.int 0, .int 0, .int 0, .int 0, .int 0, .int 0, .ref th])), (th, .inl (cI, 1001, .inl (fun _ => 0))), (ca, .inl (cI, 501, .inl (fun _ => 0))), (sa, .inl (cI, 501, .inl (fun _ => 0))), (da, .inl (cI, 501, .inl (fun _ => 0))), (xa, .inl (cI, 501, .inl (fun _ => 0))), (ou, .inl (cL, 1, .inr (.inl (fun _ => 0)))), (xm, .inr (20, [.int 0, .int 0, .ref kn, .int 0, .int 0, .int 0, .ref ml, .ref cl, .ref rg, .ref tR, .ref (aK 0), .ref (aK 0), .ref fl, .int 0, .int 0, .int 0, .int 0, .int 0, .int 0, .int 0, .null]))]) (hK : va_K (dC, dI) vwCl [(cI, .int), (cL, .long)] s) (hS : va_S A s.heap H locs) {ls : Array Slot} (hl : lv_has ls 9 [(0, .ref b), (1, .ref ya), (2, .ref xm), (3, .ref ou), (4, .ref od), (5, .int 0)]) : W p l e room_1 s m #[Value.ref b] below meth c H locs 200 60000 (lw_Z below #[Value.ref b] s) (F0 m 1445 ls []) := by
  obtain ⟨s1, hs1⟩ : ∃ z, z = xs ((0 : Int32) + 1).toNatClampNeg := ⟨_, rfl⟩
  obtain ⟨s2, hs2⟩ : ∃ z, z = xs ((0 : Int32) + 2).toNatClampNeg := ⟨_, rfl⟩
  obtain ⟨s3, hs3⟩ : ∃ z, z = xs ((0 : Int32) + 3).toNatClampNeg := ⟨_, rfl⟩
  obtain ⟨s4, hs4⟩ : ∃ z, z = xs ((0 : Int32) + 4).toNatClampNeg := ⟨_, rfl⟩
  obtain ⟨s5, hs5⟩ : ∃ z, z = xs ((0 : Int32) + 5).toNatClampNeg := ⟨_, rfl⟩
  obtain ⟨s6, hs6⟩ : ∃ z, z = xs ((0 : Int32) + 6).toNatClampNeg := ⟨_, rfl⟩
  obtain ⟨k1, hk1⟩ : ∃ z, z = (s1.toUInt32 % 65536).toInt32 := ⟨_, rfl⟩
  obtain ⟨k2, hk2⟩ : ∃ z, z = (s2.toUInt32 % 65536).toInt32 := ⟨_, rfl⟩
  obtain ⟨k3, hk3⟩ : ∃ z, z = (s3.toUInt32 % 65536).toInt32 := ⟨_, rfl⟩
  obtain ⟨k4, hk4⟩ : ∃ z, z = (s4.toUInt32 % 65536).toInt32 := ⟨_, rfl⟩
  obtain ⟨k5, hk5⟩ : ∃ z, z = (s5.toUInt32 % 65536).toInt32 := ⟨_, rfl⟩
  obtain ⟨k6, hk6⟩ : ∃ z, z = (s6.toUInt32 % 65536).toInt32 := ⟨_, rfl⟩
  refine lv_aload_n hx hb dL_law_1445 rfl (lv_at hl 1 rfl) ?_
  refine lv_aload_n hx hb dL_law_1446 rfl (lv_at hl 0 rfl) ?_
  refine lv_iload hx hb dL_law_1447 (lv_at hl 5 rfl) ?_
  refine lv_iconst (v := 1) hx hb dL_law_1449 (by decide) ?_
  refine lv_iadd hx hb dL_law_1450 ?_
  refine va_sld hx hb hX hbl hbA hS sx1 dL_law_1451 ?_
  refine lv_topi (fun x_1 ex_1 => ?_)
  obtain rfl : s1 = x_1 := (ex_1.trans hs1.symm).symm
  refine lv_aload_n hx hb dL_law_1452 rfl (lv_at hl 0 rfl) ?_
  refine lv_iload hx hb dL_law_1453 (lv_at hl 5 rfl) ?_
  refine lv_iconst (v := 2) hx hb dL_law_1455 (by decide) ?_
  refine lv_iadd hx hb dL_law_1456 ?_
  refine va_sld hx hb hX hbl hbA hS sx2 dL_law_1457 ?_
  refine lv_topi (fun x_2 ex_2 => ?_)
  obtain rfl : s2 = x_2 := (ex_2.trans hs2.symm).symm
  refine lv_aload_n hx hb dL_law_1458 rfl (lv_at hl 0 rfl) ?_
  refine lv_iload hx hb dL_law_1459 (lv_at hl 5 rfl) ?_
  refine lv_iconst (v := 3) hx hb dL_law_1461 (by decide) ?_
  refine lv_iadd hx hb dL_law_1462 ?_
  refine va_sld hx hb hX hbl hbA hS sx3 dL_law_1463 ?_
  refine lv_topi (fun x_3 ex_3 => ?_)
  obtain rfl : s3 = x_3 := (ex_3.trans hs3.symm).symm
  refine lv_i2c hx hb dL_law_1464 rfl ?_
  refine lv_topi (fun x_4 ex_4 => ?_)
  obtain rfl : k3 = x_4 := (ex_4.trans hk3.symm).symm
  refine lv_aload_n hx hb dL_law_1465 rfl (lv_at hl 3 rfl) ?_
  have hPc := hP.sub (ws' := [(ya, .inr (16, [.ref ms, .int 0, .ref ju, .ref li, .ref ct, .ref tg, .ref fw])), (li, .inr (8, [.ref bm, .int 0, .int 0, .int 0, .int 0, .int 0, .int 0, .int 0, .ref mm])), (bm, .inr (10, [.int 0, .int 2, .int 2, .ref l2, .int 0, .int 0, .int 63, .int 0, .int 0, .ref bo, .ref h2])), (bo, .inl (cI, 24, .inl (fun _ => 0))), (mm, .inr (10, [.int 0, .int 2, .int 2, .ref l1, .int 0, .int 0, .int 63, .int 0, .int 0, .ref oo, .ref h1])), (oo, .inl (cI, 24, .inl (fun _ => 0))), (ju, .inr (7, [.ref rj, .ref ro, .ref wb, .ref jt, .ref br, .ref lk])), (rj, .inr (12, [.int 0, .int 0, .int 0, .int 0, .int 0, .int 0, .ref tj])), (tj, .inl (cI, 1001, .inl (fun _ => 0))), (ro, .inr (11, [.int 0, .int 0, .ref rn, .ref rh, .int 0, .ref ca, .ref sa, .ref da, .ref xa])), (rn, .inr (12, [.int 0, .int 0, .int 0, .int 0, .int 0, .int 0, .ref tn])), (tn, .inl (cI, 1001, .inl (fun _ => 0))), (rh, .inr (12, [.int 0, .int 0, .int 0, .int 0, .int 0, .int 0, .ref th])), (th, .inl (cI, 1001, .inl (fun _ => 0))), (ca, .inl (cI, 501, .inl (fun _ => 0))), (sa, .inl (cI, 501, .inl (fun _ => 0))), (da, .inl (cI, 501, .inl (fun _ => 0))), (xa, .inl (cI, 501, .inl (fun _ => 0))), (ou, .inl (cL, 1, .inr (.inl (fun _ => 0))))]) [0, 1, 2, 3, 4, 5, 6, 7, 8, 9, 10, 11, 12, 13, 14, 15, 16, 17, 18] rfl
  have hDc := hD.sub (ws' := [(ya, .inr (16, [.ref ms, .int 0, .ref ju, .ref li, .ref ct, .ref tg, .ref fw])), (li, .inr (8, [.ref bm, .int 0, .int 0, .int 0, .int 0, .int 0, .int 0, .int 0, .ref mm])), (bm, .inr (10, [.int 0, .int 2, .int 2, .ref l2, .int 0, .int 0, .int 63, .int 0, .int 0, .ref bo, .ref h2])), (bo, .inl (cI, 24, .inl (fun _ => 0))), (mm, .inr (10, [.int 0, .int 2, .int 2, .ref l1, .int 0, .int 0, .int 63, .int 0, .int 0, .ref oo, .ref h1])), (oo, .inl (cI, 24, .inl (fun _ => 0))), (ju, .inr (7, [.ref rj, .ref ro, .ref wb, .ref jt, .ref br, .ref lk])), (rj, .inr (12, [.int 0, .int 0, .int 0, .int 0, .int 0, .int 0, .ref tj])), (tj, .inl (cI, 1001, .inl (fun _ => 0))), (ro, .inr (11, [.int 0, .int 0, .ref rn, .ref rh, .int 0, .ref ca, .ref sa, .ref da, .ref xa])), (rn, .inr (12, [.int 0, .int 0, .int 0, .int 0, .int 0, .int 0, .ref tn])), (tn, .inl (cI, 1001, .inl (fun _ => 0))), (rh, .inr (12, [.int 0, .int 0, .int 0, .int 0, .int 0, .int 0, .ref th])), (th, .inl (cI, 1001, .inl (fun _ => 0))), (ca, .inl (cI, 501, .inl (fun _ => 0))), (sa, .inl (cI, 501, .inl (fun _ => 0))), (da, .inl (cI, 501, .inl (fun _ => 0))), (xa, .inl (cI, 501, .inl (fun _ => 0))), (ou, .inl (cL, 1, .inr (.inl (fun _ => 0))))]) [0, 1, 2, 3, 4, 5, 6, 7, 8, 9, 10, 11, 12, 13, 14, 15, 16, 17, 18] (by decide) rfl
  have hKc := hK.sub (tys' := [(cI, .int), (cL, .long)]) [0, 1] rfl
  have hFc := va_free (wc := [(ya, .inr (16, [.ref ms, .int 0, .ref ju, .ref li, .ref ct, .ref tg, .ref fw])), (li, .inr (8, [.ref bm, .int 0, .int 0, .int 0, .int 0, .int 0, .int 0, .int 0, .ref mm])), (bm, .inr (10, [.int 0, .int 2, .int 2, .ref l2, .int 0, .int 0, .int 63, .int 0, .int 0, .ref bo, .ref h2])), (bo, .inl (cI, 24, .inl (fun _ => 0))), (mm, .inr (10, [.int 0, .int 2, .int 2, .ref l1, .int 0, .int 0, .int 63, .int 0, .int 0, .ref oo, .ref h1])), (oo, .inl (cI, 24, .inl (fun _ => 0))), (ju, .inr (7, [.ref rj, .ref ro, .ref wb, .ref jt, .ref br, .ref lk])), (rj, .inr (12, [.int 0, .int 0, .int 0, .int 0, .int 0, .int 0, .ref tj])), (tj, .inl (cI, 1001, .inl (fun _ => 0))), (ro, .inr (11, [.int 0, .int 0, .ref rn, .ref rh, .int 0, .ref ca, .ref sa, .ref da, .ref xa])), (rn, .inr (12, [.int 0, .int 0, .int 0, .int 0, .int 0, .int 0, .ref tn])), (tn, .inl (cI, 1001, .inl (fun _ => 0))), (rh, .inr (12, [.int 0, .int 0, .int 0, .int 0, .int 0, .int 0, .ref th])), (th, .inl (cI, 1001, .inl (fun _ => 0))), (ca, .inl (cI, 501, .inl (fun _ => 0))), (sa, .inl (cI, 501, .inl (fun _ => 0))), (da, .inl (cI, 501, .inl (fun _ => 0))), (xa, .inl (cI, 501, .inl (fun _ => 0))), (ou, .inl (cL, 1, .inr (.inl (fun _ => 0))))]) hD hS hA [0, 1, 2, 3, 4, 5, 6, 7, 8, 9, 10, 11, 12, 13, 14, 15, 16, 17, 18] rfl
  refine vx_calli (vx_runSX (As := [.ref ya, .int s1, .int s2, .int k3, .ref ou]) (rest := []) ⟨hx, hb, hml, hown, hts⟩ (c_L_listed l hfl dC dI cI ya ms ct tg fw li ju bm bo l2 h2 mm oo l1 h1 rj tj ro rn rh ca sa da xa tn th wb jt br lk 0 63 0 0 0 63 0 0 ((0, 0, 0, 0, 0, 0, fun _ => 0), 0, 0, 0, (0, 0, 0, 0, 0, 0, fun _ => 0), (0, 0, 0, 0, 0, 0, fun _ => 0), (fun _ => 0), (fun _ => 0), (fun _ => 0), (fun _ => 0), 0, fun _ => 0) s1 s2 k3 cL ou (fun _ => 0) H.size) (vx_cwSW 5 hts gL_law_L_listed rfl rfl rfl (by decide +kernel) ⟨Nat.le_of_ble_eq_true rfl, Nat.le_of_ble_eq_true rfl⟩) (pcSz (zX_ok) hPc hDc hKc hN hZ.1 hS hFc) rfl rfl hl.1 rfl (lv_room (Nat.le_of_ble_eq_true rfl)) dL_law_1466 ⟨Nat.le_of_ble_eq_true rfl, Nat.le_of_ble_eq_true rfl⟩) hS (fun q _ h => hFc q h) hFc (fun q _ h => hFc q h) (fun E9 ce9 q9 u9 t9 H9 locs9 ht9 hvm9 hp9 hE9 hz9 hk9 hS9 hc9 hv9 hcl9 => hE9.elim) (fun r_6 u t H1 locs ht hvm hw_7 hB hz1 hk1 hS => ?_)
  obtain of_5 := u
  obtain ⟨hP1, hK1, hD1⟩ := hB
  rw [ht] at hP1
  try dsimp only at hw_7
  obtain ⟨hP, hD⟩ := va_join (wr := [(xm, .inr (20, [.int 0, .int 0, .ref kn, .int 0, .int 0, .int 0, .ref ml, .ref cl, .ref rg, .ref tR, .ref (aK 0), .ref (aK 0), .ref fl, .int 0, .int 0, .int 0, .int 0, .int 0, .int 0, .int 0, .null]))]) (w1 := [(ou, .inl (cL, 1, .inr (.inl of_5)))]) hP hD [0, 1, 2, 3, 4, 5, 6, 7, 8, 9, 10, 11, 12, 13, 14, 15, 16, 17, 18] [19] rfl rfl (by decide) (by decide) hk1 hFc hP1 hD1
  generalize H1 = H at hP hS ⊢
  have hP : va_P (dC, dI) vwCl [(xm, .inr (20, [.int 0, .int 0, .ref kn, .int 0, .int 0, .int 0, .ref ml, .ref cl, .ref rg, .ref tR, .ref (aK 0), .ref (aK 0), .ref fl, .int 0, .int 0, .int 0, .int 0, .int 0, .int 0, .int 0, .null])), (ou, .inl (cL, 1, .inr (.inl of_5)))] H := hP
  have hD : va_D A [(xm, .inr (20, [.int 0, .int 0, .ref kn, .int 0, .int 0, .int 0, .ref ml, .ref cl, .ref rg, .ref tR, .ref (aK 0), .ref (aK 0), .ref fl, .int 0, .int 0, .int 0, .int 0, .int 0, .int 0, .int 0, .null])), (ou, .inl (cL, 1, .inr (.inl of_5)))] := hD
  refine W.widen (k := 202) (n := 60012) (Nat.le_of_ble_eq_true rfl) (Nat.le_of_ble_eq_true rfl) ?_
  rcases hw_7 with ⟨hr0, hPP, hv0⟩ | ⟨hr0, hPP⟩
  · obtain rfl : r_6 = 0 := hr0
    refine lv_istore (lv' := [(6, .int 0), (0, .ref b), (1, .ref ya), (2, .ref xm), (3, .ref ou), (4, .ref od), (5, .int 0)]) hx hb dL_law_1469 hl (by decide) rfl (fun ls hl => ?_)
    refine lv_aload_n hx hb dL_law_1471 rfl (lv_at hl 3 rfl) ?_
    refine lv_aload_n hx hb dL_law_1472 rfl (lv_at hl 1 rfl) ?_
    refine lv_iload hx hb dL_law_1473 (lv_at hl 6 rfl) ?_
    refine lv_iconst (v := 1) hx hb dL_law_1475 (by decide) ?_
    refine lv_iadd hx hb dL_law_1476 ?_
    refine va_sld hx hb hX hbl hbA hS sx1 dL_law_1477 ?_
    refine lv_topi (fun x_8 ex_8 => ?_)
    obtain rfl : s1 = x_8 := (ex_8.trans hs1.symm).symm
    refine lv_aload_n hx hb dL_law_1478 rfl (lv_at hl 1 rfl) ?_
    refine lv_iload hx hb dL_law_1479 (lv_at hl 6 rfl) ?_
    refine lv_iconst (v := 2) hx hb dL_law_1481 (by decide) ?_
    refine lv_iadd hx hb dL_law_1482 ?_
    refine va_sld hx hb hX hbl hbA hS sx2 dL_law_1483 ?_
    refine lv_topi (fun x_9 ex_9 => ?_)
    obtain rfl : s2 = x_9 := (ex_9.trans hs2.symm).symm
    refine lv_aload_n hx hb dL_law_1484 rfl (lv_at hl 1 rfl) ?_
    refine lv_iload hx hb dL_law_1485 (lv_at hl 6 rfl) ?_
    refine lv_iconst (v := 3) hx hb dL_law_1487 (by decide) ?_
    refine lv_iadd hx hb dL_law_1488 ?_
    refine va_sld hx hb hX hbl hbA hS sx3 dL_law_1489 ?_
    refine lv_topi (fun x_10 ex_10 => ?_)
    obtain rfl : s3 = x_10 := (ex_10.trans hs3.symm).symm
    refine lv_i2c hx hb dL_law_1490 rfl ?_
    refine lv_topi (fun x_11 ex_11 => ?_)
    obtain rfl : k3 = x_11 := (ex_11.trans hk3.symm).symm
    have hPc := hP.sub (ws' := [(xm, .inr (20, [.int 0, .int 0, .ref kn, .int 0, .int 0, .int 0, .ref ml, .ref cl, .ref rg, .ref tR, .ref (aK 0), .ref (aK 0), .ref fl, .int 0, .int 0, .int 0, .int 0, .int 0, .int 0, .int 0, .null]))]) [0] rfl
    have hDc := hD.sub (ws' := [(xm, .inr (20, [.int 0, .int 0, .ref kn, .int 0, .int 0, .int 0, .ref ml, .ref cl, .ref rg, .ref tR, .ref (aK 0), .ref (aK 0), .ref fl, .int 0, .int 0, .int 0, .int 0, .int 0, .int 0, .int 0, .null]))]) [0] (by decide) rfl
    have hKc := hK.sub (tys' := [(cI, .int)]) [0] rfl
    have hFc := va_free (wc := [(xm, .inr (20, [.int 0, .int 0, .ref kn, .int 0, .int 0, .int 0, .ref ml, .ref cl, .ref rg, .ref tR, .ref (aK 0), .ref (aK 0), .ref fl, .int 0, .int 0, .int 0, .int 0, .int 0, .int 0, .int 0, .null]))]) hD hS hA [0] rfl
    refine va_calli (va_runV (As := [.int s1, .int s2, .int k3]) (rest := []) ⟨hx, hb, hml, hown, hts⟩ (c_X15_listed l dC dI xm ml cl fl kn rg tR e0 aK aV cI s1 s2 k3 H.size) (cwV 3 hts gL_law_X15_listed rfl rfl rfl (by decide +kernel) ⟨Nat.le_of_ble_eq_true rfl, Nat.le_of_ble_eq_true rfl⟩) (pcVz (zM_ok e0 aK aV) hPc hDc hKc hN hZ.2 hS hFc (ci := 20) (q0 := 0) rfl rfl) rfl rfl hl.1 rfl (lv_room (Nat.le_of_ble_eq_true rfl)) dL_law_1491 ⟨Nat.le_of_ble_eq_true rfl, Nat.le_of_ble_eq_true rfl⟩) hS (fun q _ h => hFc q h) hFc (fun r_13 u t H1 locs ht hvm hw_14 hB hz1 hk1 hS => ?_)
    obtain fs_12 := u
    obtain ⟨hP1, hK1, hD1⟩ := hB
    rw [ht] at hP1
    try dsimp only at hw_14
    obtain ⟨hP, hD⟩ := va_join (wr := [(ou, .inl (cL, 1, .inr (.inl of_5)))]) (w1 := [(xm, .inr (20, fs_12))]) hP hD [0] [1] rfl rfl (by decide) (by decide) hk1 hFc hP1 hD1
    generalize H1 = H at hP hS ⊢
    have hP : va_P (dC, dI) vwCl [(ou, .inl (cL, 1, .inr (.inl of_5))), (xm, .inr (20, fs_12))] H := hP
    have hD : va_D A [(ou, .inl (cL, 1, .inr (.inl of_5))), (xm, .inr (20, fs_12))] := hD
    refine W.widen (k := 14542) (n := 5865438) (Nat.le_of_ble_eq_true rfl) (Nat.le_of_ble_eq_true rfl) ?_
    obtain ⟨ht9, hrv⟩ := hw_14.elim (fun h => h.2) (fun h => absurd hPP h.1)
    obtain rfl : r_13 = (lsAns (lsC s1 s2) k3) := hrv
    refine lv_topi (fun x_15 ex_15 => ?_)
    refine lv_istore (lv' := [(7, .int x_15), (6, .int 0), (0, .ref b), (1, .ref ya), (2, .ref xm), (3, .ref ou), (4, .ref od), (5, .int 0)]) hx hb dL_law_1494 hl (by decide) rfl (fun ls hl => ?_)
    refine lv_aload_n hx hb dL_law_1496 rfl (lv_at hl 4 rfl) ?_
    have hPc := hP.sub (ws' := [(xm, .inr (20, fs_12))]) [1] rfl
    have hDc := hD.sub (ws' := [(xm, .inr (20, fs_12))]) [1] (by decide) rfl
    have hKc := hK.sub (tys' := []) [] rfl
    have hFc := va_free (wc := [(xm, .inr (20, fs_12))]) hD hS hA [1] rfl
    refine va_calli (va_runV (As := []) (rest := []) ⟨hx, hb, hml, hown, hts⟩ (c_X15_thrown l dC dI xm fs_12 0 ht9 H.size) (cwV 0 hts gL_law_X15_thrown rfl rfl rfl (by decide +kernel) ⟨Nat.le_of_ble_eq_true rfl, Nat.le_of_ble_eq_true rfl⟩) (pcV hPc hDc hKc hN (ci := 20) (q0 := 0) rfl rfl) rfl rfl hl.1 rfl (lv_room (Nat.le_of_ble_eq_true rfl)) dL_law_1497 ⟨Nat.le_of_ble_eq_true rfl, Nat.le_of_ble_eq_true rfl⟩) hS (fun q _ h => hFc q h) hFc (fun r_16 u t H1 locs ht hvm hw_17 hB hz1 hk1 hS => ?_)
    obtain ⟨hP1, hK1, hD1⟩ := hB
    rw [ht] at hP1
    try dsimp only at hw_17
    obtain ⟨hP, hD⟩ := va_join (wr := [(ou, .inl (cL, 1, .inr (.inl of_5)))]) (w1 := []) hP hD [1] [0] rfl rfl (by decide) (by decide) hk1 hFc hP1 hD1
    generalize H1 = H at hP hS ⊢
    have hP : va_P (dC, dI) vwCl [(ou, .inl (cL, 1, .inr (.inl of_5)))] H := hP
    have hD : va_D A [(ou, .inl (cL, 1, .inr (.inl of_5)))] := hD
    obtain rfl : r_16 = 0 := hw_17
    refine lv_iload hx hb dL_law_1500 (lv_at hl 1 rfl) ?_
    refine lv_icmp_eq (tgt := 1507) hx hb dL_law_1502 (by decide) (fun c1502_18 => ?_) (fun c1502_18 => ?_)
    · refine lv_iload hx hb dL_law_1507 (lv_at hl 1 rfl) ?_
      refine lv_if_ne (tgt := 1524) hx hb dL_law_1509 (by decide) (fun c1509_19 => ?_) (fun c1509_19 => ?_)
      · exact (c1509_19 (by decide)).elim
      · refine lv_aload_n hx hb dL_law_1512 rfl (lv_at hl 5 rfl) ?_
        refine lv_iconst (v := 0) hx hb dL_law_1513 (by decide) ?_
        refine va_lald hx hb hK hP 0 1 rfl rfl (show vp_in (nI 0) 1 from vp_in_nI (by decide) (by decide)) dL_law_1514 ?_
        refine lv_topl (fun z_20 ez_20 => ?_)
        obtain rfl : z_20 = (lsAns (lsC s1 s2) k3).toInt64 := by rw [ez_20, show (0 : Int32).toNatClampNeg = 0 from by decide]; exact hv0
        refine lv_iload hx hb dL_law_1515 (lv_at hl 0 rfl) ?_
        refine lv_i2l hx hb dL_law_1517 rfl ?_
        refine W.lcmp hx hb dL_law_1518 ?_
        refine lv_if_eq (tgt := 1524) hx hb dL_law_1519 (by decide) (fun c1519_21 => ?_) (fun c1519_21 => ?_)
        · refine lv_goto (tgt := 2778) hx hb dL_law_1524 (by decide) ?_
          refine W.widen (k := 600006) (n := 7302039) (Nat.le_of_ble_eq_true rfl) (Nat.le_of_ble_eq_true rfl) ?_
          exact law_end hx hb hr hml hX hbl hlocks hbA hAo hS (lv_sub hl [2, 7] rfl)
        · exact absurd ((lg_cmp_eq _ _).mpr rfl) c1519_21
    · exact (c1502_18 (by decide)).elim
  · obtain rfl : r_6 = 1 := hr0
    refine lv_istore (lv' := [(6, .int 1), (0, .ref b), (1, .ref ya), (2, .ref xm), (3, .ref ou), (4, .ref od), (5, .int 0)]) hx hb dL_law_1469 hl (by decide) rfl (fun ls hl => ?_)
    refine lv_aload_n hx hb dL_law_1471 rfl (lv_at hl 3 rfl) ?_
    refine lv_aload_n hx hb dL_law_1472 rfl (lv_at hl 1 rfl) ?_
    refine lv_iload hx hb dL_law_1473 (lv_at hl 6 rfl) ?_
    refine lv_iconst (v := 1) hx hb dL_law_1475 (by decide) ?_
    refine lv_iadd hx hb dL_law_1476 ?_
    refine va_sld hx hb hX hbl hbA hS sx1 dL_law_1477 ?_
    refine lv_topi (fun x_22 ex_22 => ?_)
    obtain rfl : s1 = x_22 := (ex_22.trans hs1.symm).symm
    refine lv_aload_n hx hb dL_law_1478 rfl (lv_at hl 1 rfl) ?_
    refine lv_iload hx hb dL_law_1479 (lv_at hl 6 rfl) ?_
    refine lv_iconst (v := 2) hx hb dL_law_1481 (by decide) ?_
    refine lv_iadd hx hb dL_law_1482 ?_
    refine va_sld hx hb hX hbl hbA hS sx2 dL_law_1483 ?_
    refine lv_topi (fun x_23 ex_23 => ?_)
    obtain rfl : s2 = x_23 := (ex_23.trans hs2.symm).symm
    refine lv_aload_n hx hb dL_law_1484 rfl (lv_at hl 1 rfl) ?_
    refine lv_iload hx hb dL_law_1485 (lv_at hl 6 rfl) ?_
    refine lv_iconst (v := 3) hx hb dL_law_1487 (by decide) ?_
    refine lv_iadd hx hb dL_law_1488 ?_
    refine va_sld hx hb hX hbl hbA hS sx3 dL_law_1489 ?_
    refine lv_topi (fun x_24 ex_24 => ?_)
    obtain rfl : s3 = x_24 := (ex_24.trans hs3.symm).symm
    refine lv_i2c hx hb dL_law_1490 rfl ?_
    refine lv_topi (fun x_25 ex_25 => ?_)
    obtain rfl : k3 = x_25 := (ex_25.trans hk3.symm).symm
    have hPc := hP.sub (ws' := [(xm, .inr (20, [.int 0, .int 0, .ref kn, .int 0, .int 0, .int 0, .ref ml, .ref cl, .ref rg, .ref tR, .ref (aK 0), .ref (aK 0), .ref fl, .int 0, .int 0, .int 0, .int 0, .int 0, .int 0, .int 0, .null]))]) [0] rfl
    have hDc := hD.sub (ws' := [(xm, .inr (20, [.int 0, .int 0, .ref kn, .int 0, .int 0, .int 0, .ref ml, .ref cl, .ref rg, .ref tR, .ref (aK 0), .ref (aK 0), .ref fl, .int 0, .int 0, .int 0, .int 0, .int 0, .int 0, .int 0, .null]))]) [0] (by decide) rfl
    have hKc := hK.sub (tys' := [(cI, .int)]) [0] rfl
    have hFc := va_free (wc := [(xm, .inr (20, [.int 0, .int 0, .ref kn, .int 0, .int 0, .int 0, .ref ml, .ref cl, .ref rg, .ref tR, .ref (aK 0), .ref (aK 0), .ref fl, .int 0, .int 0, .int 0, .int 0, .int 0, .int 0, .int 0, .null]))]) hD hS hA [0] rfl
    refine va_calli (va_runV (As := [.int s1, .int s2, .int k3]) (rest := []) ⟨hx, hb, hml, hown, hts⟩ (c_X15_listed l dC dI xm ml cl fl kn rg tR e0 aK aV cI s1 s2 k3 H.size) (cwV 3 hts gL_law_X15_listed rfl rfl rfl (by decide +kernel) ⟨Nat.le_of_ble_eq_true rfl, Nat.le_of_ble_eq_true rfl⟩) (pcVz (zM_ok e0 aK aV) hPc hDc hKc hN hZ.2 hS hFc (ci := 20) (q0 := 0) rfl rfl) rfl rfl hl.1 rfl (lv_room (Nat.le_of_ble_eq_true rfl)) dL_law_1491 ⟨Nat.le_of_ble_eq_true rfl, Nat.le_of_ble_eq_true rfl⟩) hS (fun q _ h => hFc q h) hFc (fun r_27 u t H1 locs ht hvm hw_28 hB hz1 hk1 hS => ?_)
    obtain fs_26 := u
    obtain ⟨hP1, hK1, hD1⟩ := hB
    rw [ht] at hP1
    try dsimp only at hw_28
    obtain ⟨hP, hD⟩ := va_join (wr := [(ou, .inl (cL, 1, .inr (.inl of_5)))]) (w1 := [(xm, .inr (20, fs_26))]) hP hD [0] [1] rfl rfl (by decide) (by decide) hk1 hFc hP1 hD1
    generalize H1 = H at hP hS ⊢
    have hP : va_P (dC, dI) vwCl [(ou, .inl (cL, 1, .inr (.inl of_5))), (xm, .inr (20, fs_26))] H := hP
    have hD : va_D A [(ou, .inl (cL, 1, .inr (.inl of_5))), (xm, .inr (20, fs_26))] := hD
    refine W.widen (k := 14542) (n := 5865438) (Nat.le_of_ble_eq_true rfl) (Nat.le_of_ble_eq_true rfl) ?_
    have ht9 := hw_28.elim (fun h => absurd h.1 hPP) (fun h => h.2)
    refine lv_istore (lv' := [(7, .int r_27), (6, .int 1), (0, .ref b), (1, .ref ya), (2, .ref xm), (3, .ref ou), (4, .ref od), (5, .int 0)]) hx hb dL_law_1494 hl (by decide) rfl (fun ls hl => ?_)
    refine lv_aload_n hx hb dL_law_1496 rfl (lv_at hl 4 rfl) ?_
    have hPc := hP.sub (ws' := [(xm, .inr (20, fs_26))]) [1] rfl
    have hDc := hD.sub (ws' := [(xm, .inr (20, fs_26))]) [1] (by decide) rfl
    have hKc := hK.sub (tys' := []) [] rfl
    have hFc := va_free (wc := [(xm, .inr (20, fs_26))]) hD hS hA [1] rfl
    refine va_calli (va_runV (As := []) (rest := []) ⟨hx, hb, hml, hown, hts⟩ (c_X15_thrown l dC dI xm fs_26 1 ht9 H.size) (cwV 0 hts gL_law_X15_thrown rfl rfl rfl (by decide +kernel) ⟨Nat.le_of_ble_eq_true rfl, Nat.le_of_ble_eq_true rfl⟩) (pcV hPc hDc hKc hN (ci := 20) (q0 := 0) rfl rfl) rfl rfl hl.1 rfl (lv_room (Nat.le_of_ble_eq_true rfl)) dL_law_1497 ⟨Nat.le_of_ble_eq_true rfl, Nat.le_of_ble_eq_true rfl⟩) hS (fun q _ h => hFc q h) hFc (fun r_29 u t H1 locs ht hvm hw_30 hB hz1 hk1 hS => ?_)
    obtain ⟨hP1, hK1, hD1⟩ := hB
    rw [ht] at hP1
    try dsimp only at hw_30
    obtain ⟨hP, hD⟩ := va_join (wr := [(ou, .inl (cL, 1, .inr (.inl of_5)))]) (w1 := []) hP hD [1] [0] rfl rfl (by decide) (by decide) hk1 hFc hP1 hD1
    generalize H1 = H at hP hS ⊢
    have hP : va_P (dC, dI) vwCl [(ou, .inl (cL, 1, .inr (.inl of_5)))] H := hP
    have hD : va_D A [(ou, .inl (cL, 1, .inr (.inl of_5)))] := hD
    obtain rfl : r_29 = 1 := hw_30
    refine lv_iload hx hb dL_law_1500 (lv_at hl 1 rfl) ?_
    refine lv_icmp_eq (tgt := 1507) hx hb dL_law_1502 (by decide) (fun c1502_31 => ?_) (fun c1502_31 => ?_)
    · refine lv_iload hx hb dL_law_1507 (lv_at hl 1 rfl) ?_
      refine lv_if_ne (tgt := 1524) hx hb dL_law_1509 (by decide) (fun c1509_32 => ?_) (fun c1509_32 => ?_)
      · refine lv_goto (tgt := 2778) hx hb dL_law_1524 (by decide) ?_
        refine W.widen (k := 600006) (n := 7302039) (Nat.le_of_ble_eq_true rfl) (Nat.le_of_ble_eq_true rfl) ?_
        exact law_end hx hb hr hml hX hbl hlocks hbA hAo hS (lv_sub hl [2, 7] rfl)
      · exact absurd c1509_32 (by decide)
    · exact (c1502_31 (by decide)).elim

set_option maxHeartbeats 8000000 in
set_option maxRecDepth 100000 in
/-- the law: law_18_champion -/
theorem law_18_champion {p : Program} {e : Env} {s : State} {m : MethodId} {below : List Frame} {meth : Method} {c : Code} {l : Launch} {b : Nat} {xs : Nat → Int32} (hx : p.tables.exec = Jvm.exec) (hb : c.code = cL_law) (hr : meth.sig.returnType = ret) (hml : c.maxLocals = 9) (hfl : l.stackTraces = false) (hown : s.vm.findClass RL = some m.cls) (hts : ∀ w ∈ wsL_law, w.before #[Value.ref b] s = true) (hX : va_X b 7 xs s s.heap) (hbl : b < s.heap.size) (hlocks : meth.locks = false) {A : Nat → Prop} (hbA : ¬ A b) (hAo : ∀ q, A q → s.heap.size ≤ q) (hA : ∀ q : Nat, s.heap.size ≤ q → A q) (dC : Nat → ClassId) (dI : Nat → Nat → Nat) (hN : nwA s) (e0 : Nat) (aK aV : Nat → Nat) (hZ : zX A s s.heap ∧ zM e0 aK aV A s s.heap) (ya ms ju rj tj ro rn tn rh th ca sa da xa wb z1 z2 jt z3 br z4 z5 z6 lk z7 z8 li bm l2 z9 bo h2 mm l1 z10 oo h1 ct cr cu cg cp co tg ts tr tk te fw fo fu xm ml cl fl rg tR ou od kn : Nat) (cI cM cS cL cD cB : ClassId) {H : Heap} {locs : List Loc} (hP : va_P (dC, dI) vwCl [(ya, .inr (16, [.ref ms, .int 0, .ref ju, .ref li, .ref ct, .ref tg, .ref fw])), (ms, .inl (cM, 16, .inr (.inr (.inr (.inr (fun _ => none)))))), (li, .inr (8, [.ref bm, .int 0, .int 0, .int 0, .int 0, .int 0, .int 0, .int 0, .ref mm])), (bm, .inr (10, [.int 0, .int 2, .int 2, .ref l2, .int 0, .int 0, .int 63, .int 0, .int 0, .ref bo, .ref h2])), (bo, .inl (cI, 24, .inl (fun _ => 0))), (mm, .inr (10, [.int 0, .int 2, .int 2, .ref l1, .int 0, .int 0, .int 63, .int 0, .int 0, .ref oo, .ref h1])), (oo, .inl (cI, 24, .inl (fun _ => 0))), (ju, .inr (7, [.ref rj, .ref ro, .ref wb, .ref jt, .ref br, .ref lk])), (rj, .inr (12, [.int 0, .int 0, .int 0, .int 0, .int 0, .int 0, .ref tj])), (tj, .inl (cI, 1001, .inl (fun _ => 0))), (ro, .inr (11, [.int 0, .int 0, .ref rn, .ref rh, .int 0, .ref ca, .ref sa, .ref da, .ref xa])), (rn, .inr (12, [.int 0, .int 0, .int 0, .int 0, .int 0, .int 0, .ref tn])), (tn, .inl (cI, 1001, .inl (fun _ => 0))), (rh, .inr (12, [.int 0, .int 0, .int 0, .int 0, .int 0, .int 0, .ref th])), (th, .inl (cI, 1001, .inl (fun _ => 0))), (ca, .inl (cI, 501, .inl (fun _ => 0))), (sa, .inl (cI, 501, .inl (fun _ => 0))), (da, .inl (cI, 501, .inl (fun _ => 0))), (xa, .inl (cI, 501, .inl (fun _ => 0))), (ou, .inl (cL, 1, .inr (.inl (fun _ => 0)))), (xm, .inr (20, [.int 0, .int 0, .ref kn, .int 0, .int 0, .int 0, .ref ml, .ref cl, .ref rg, .ref tR, .ref (aK 0), .ref (aK 0), .ref fl, .int 0, .int 0, .int 0, .int 0, .int 0, .int 0, .int 0, .null])), (ml, .inr (4, [.int 0, .ref e0, .int 0]))] H) (hD : va_D A [(ya, .inr (16, [.ref ms, .int 0, .ref ju, .ref li, .ref ct, .ref tg, .ref fw])), (ms, .inl (cM, 16, .inr (.inr (.inr (.inr (fun _ => none)))))), (li, .inr (8, [.ref bm, .int 0, .int 0, .int 0, .int 0, .int 0, .int 0, .int 0, .ref mm])), (bm, .inr (10, [.int 0, .int 2, .int 2, .ref l2, .int 0, .int 0, .int 63, .int 0, .int 0, .ref bo, .ref h2])), (bo, .inl (cI, 24, .inl (fun _ => 0))), (mm, .inr (10, [.int 0, .int 2, .int 2, .ref l1, .int 0, .int 0, .int 63, .int 0, .int 0, .ref oo, .ref h1])), (oo, .inl (cI, 24, .inl (fun _ => 0))), (ju, .inr (7, [.ref rj, .ref ro, .ref wb, .ref jt, .ref br, .ref lk])), (rj, .inr (12, [.int 0, .int 0, .int 0, .int 0, .int 0, .int 0, .ref tj])), (tj, .inl (cI, 1001, .inl (fun _ => 0))), (ro, .inr (11, [.int 0, .int 0, .ref rn, .ref rh, .int 0, .ref ca, .ref sa, .ref da, .ref xa])), (rn, .inr (12, [.int 0, .int 0, .int 0, .int 0, .int 0, .int 0, .ref tn])), (tn, .inl (cI, 1001, .inl (fun _ => 0))), (rh, .inr (12, [.int 0, .int 0, .int 0, .int 0, .int 0, .int 0, .ref th])), (th, .inl (cI, 1001, .inl (fun _ => 0))), (ca, .inl (cI, 501, .inl (fun _ => 0))), (sa, .inl (cI, 501, .inl (fun _ => 0))), (da, .inl (cI, 501, .inl (fun _ => 0))), (xa, .inl (cI, 501, .inl (fun _ => 0))), (ou, .inl (cL, 1, .inr (.inl (fun _ => 0)))), (xm, .inr (20, [.int 0, .int 0, .ref kn, .int 0, .int 0, .int 0, .ref ml, .ref cl, .ref rg, .ref tR, .ref (aK 0), .ref (aK 0), .ref fl, .int 0, .int 0, .int 0, .int 0, .int 0, .int 0, .int 0, .null])), (ml, .inr (4, [.int 0, .ref e0, .int 0]))]) (hK : va_K (dC, dI) vwCl [(cI, .int), (cM, .object "Beaverhall$Machine"), (cL, .long)] s) (hS : va_S A s.heap H locs) {ls : Array Slot} (hl : lv_has ls 9 [(0, .ref b), (1, .ref ya), (2, .ref xm), (3, .ref ou), (4, .ref od), (5, .int 0)]) : W p l e room_1 s m #[Value.ref b] below meth c H locs 200 60000 (lw_Z below #[Value.ref b] s) (F0 m 1527 ls []) := by
  obtain ⟨s1, hs1⟩ : ∃ z, z = xs ((0 : Int32) + 1).toNatClampNeg := ⟨_, rfl⟩
  obtain ⟨s2, hs2⟩ : ∃ z, z = xs ((0 : Int32) + 2).toNatClampNeg := ⟨_, rfl⟩
  obtain ⟨s3, hs3⟩ : ∃ z, z = xs ((0 : Int32) + 3).toNatClampNeg := ⟨_, rfl⟩
  obtain ⟨s4, hs4⟩ : ∃ z, z = xs ((0 : Int32) + 4).toNatClampNeg := ⟨_, rfl⟩
  obtain ⟨s5, hs5⟩ : ∃ z, z = xs ((0 : Int32) + 5).toNatClampNeg := ⟨_, rfl⟩
  obtain ⟨s6, hs6⟩ : ∃ z, z = xs ((0 : Int32) + 6).toNatClampNeg := ⟨_, rfl⟩
  obtain ⟨k1, hk1⟩ : ∃ z, z = (s1.toUInt32 % 65536).toInt32 := ⟨_, rfl⟩
  obtain ⟨k2, hk2⟩ : ∃ z, z = (s2.toUInt32 % 65536).toInt32 := ⟨_, rfl⟩
  obtain ⟨k3, hk3⟩ : ∃ z, z = (s3.toUInt32 % 65536).toInt32 := ⟨_, rfl⟩
  obtain ⟨k4, hk4⟩ : ∃ z, z = (s4.toUInt32 % 65536).toInt32 := ⟨_, rfl⟩
  obtain ⟨k5, hk5⟩ : ∃ z, z = (s5.toUInt32 % 65536).toInt32 := ⟨_, rfl⟩
  obtain ⟨k6, hk6⟩ : ∃ z, z = (s6.toUInt32 % 65536).toInt32 := ⟨_, rfl⟩
  refine lv_aload_n hx hb dL_law_1527 rfl (lv_at hl 1 rfl) ?_
  refine lv_aload_n hx hb dL_law_1528 rfl (lv_at hl 0 rfl) ?_
  refine lv_iload hx hb dL_law_1529 (lv_at hl 5 rfl) ?_
  refine lv_iconst (v := 1) hx hb dL_law_1531 (by decide) ?_
  refine lv_iadd hx hb dL_law_1532 ?_
  refine va_sld hx hb hX hbl hbA hS sx1 dL_law_1533 ?_
  refine lv_topi (fun x_1 ex_1 => ?_)
  obtain rfl : s1 = x_1 := (ex_1.trans hs1.symm).symm
  refine lv_aload_n hx hb dL_law_1534 rfl (lv_at hl 0 rfl) ?_
  refine lv_iload hx hb dL_law_1535 (lv_at hl 5 rfl) ?_
  refine lv_iconst (v := 2) hx hb dL_law_1537 (by decide) ?_
  refine lv_iadd hx hb dL_law_1538 ?_
  refine va_sld hx hb hX hbl hbA hS sx2 dL_law_1539 ?_
  refine lv_topi (fun x_2 ex_2 => ?_)
  obtain rfl : s2 = x_2 := (ex_2.trans hs2.symm).symm
  refine lv_aload_n hx hb dL_law_1540 rfl (lv_at hl 3 rfl) ?_
  have hPc := hP.sub (ws' := [(ya, .inr (16, [.ref ms, .int 0, .ref ju, .ref li, .ref ct, .ref tg, .ref fw])), (ms, .inl (cM, 16, .inr (.inr (.inr (.inr (fun _ => none)))))), (li, .inr (8, [.ref bm, .int 0, .int 0, .int 0, .int 0, .int 0, .int 0, .int 0, .ref mm])), (bm, .inr (10, [.int 0, .int 2, .int 2, .ref l2, .int 0, .int 0, .int 63, .int 0, .int 0, .ref bo, .ref h2])), (bo, .inl (cI, 24, .inl (fun _ => 0))), (mm, .inr (10, [.int 0, .int 2, .int 2, .ref l1, .int 0, .int 0, .int 63, .int 0, .int 0, .ref oo, .ref h1])), (oo, .inl (cI, 24, .inl (fun _ => 0))), (ju, .inr (7, [.ref rj, .ref ro, .ref wb, .ref jt, .ref br, .ref lk])), (rj, .inr (12, [.int 0, .int 0, .int 0, .int 0, .int 0, .int 0, .ref tj])), (tj, .inl (cI, 1001, .inl (fun _ => 0))), (ro, .inr (11, [.int 0, .int 0, .ref rn, .ref rh, .int 0, .ref ca, .ref sa, .ref da, .ref xa])), (rn, .inr (12, [.int 0, .int 0, .int 0, .int 0, .int 0, .int 0, .ref tn])), (tn, .inl (cI, 1001, .inl (fun _ => 0))), (rh, .inr (12, [.int 0, .int 0, .int 0, .int 0, .int 0, .int 0, .ref th])), (th, .inl (cI, 1001, .inl (fun _ => 0))), (ca, .inl (cI, 501, .inl (fun _ => 0))), (sa, .inl (cI, 501, .inl (fun _ => 0))), (da, .inl (cI, 501, .inl (fun _ => 0))), (xa, .inl (cI, 501, .inl (fun _ => 0))), (ou, .inl (cL, 1, .inr (.inl (fun _ => 0))))]) [0, 1, 2, 3, 4, 5, 6, 7, 8, 9, 10, 11, 12, 13, 14, 15, 16, 17, 18, 19] rfl
  have hDc := hD.sub (ws' := [(ya, .inr (16, [.ref ms, .int 0, .ref ju, .ref li, .ref ct, .ref tg, .ref fw])), (ms, .inl (cM, 16, .inr (.inr (.inr (.inr (fun _ => none)))))), (li, .inr (8, [.ref bm, .int 0, .int 0, .int 0, .int 0, .int 0, .int 0, .int 0, .ref mm])), (bm, .inr (10, [.int 0, .int 2, .int 2, .ref l2, .int 0, .int 0, .int 63, .int 0, .int 0, .ref bo, .ref h2])), (bo, .inl (cI, 24, .inl (fun _ => 0))), (mm, .inr (10, [.int 0, .int 2, .int 2, .ref l1, .int 0, .int 0, .int 63, .int 0, .int 0, .ref oo, .ref h1])), (oo, .inl (cI, 24, .inl (fun _ => 0))), (ju, .inr (7, [.ref rj, .ref ro, .ref wb, .ref jt, .ref br, .ref lk])), (rj, .inr (12, [.int 0, .int 0, .int 0, .int 0, .int 0, .int 0, .ref tj])), (tj, .inl (cI, 1001, .inl (fun _ => 0))), (ro, .inr (11, [.int 0, .int 0, .ref rn, .ref rh, .int 0, .ref ca, .ref sa, .ref da, .ref xa])), (rn, .inr (12, [.int 0, .int 0, .int 0, .int 0, .int 0, .int 0, .ref tn])), (tn, .inl (cI, 1001, .inl (fun _ => 0))), (rh, .inr (12, [.int 0, .int 0, .int 0, .int 0, .int 0, .int 0, .ref th])), (th, .inl (cI, 1001, .inl (fun _ => 0))), (ca, .inl (cI, 501, .inl (fun _ => 0))), (sa, .inl (cI, 501, .inl (fun _ => 0))), (da, .inl (cI, 501, .inl (fun _ => 0))), (xa, .inl (cI, 501, .inl (fun _ => 0))), (ou, .inl (cL, 1, .inr (.inl (fun _ => 0))))]) [0, 1, 2, 3, 4, 5, 6, 7, 8, 9, 10, 11, 12, 13, 14, 15, 16, 17, 18, 19] (by decide) rfl
  have hKc := hK.sub (tys' := [(cI, .int), (cM, .object "Beaverhall$Machine"), (cL, .long)]) [0, 1, 2] rfl
  have hFc := va_free (wc := [(ya, .inr (16, [.ref ms, .int 0, .ref ju, .ref li, .ref ct, .ref tg, .ref fw])), (ms, .inl (cM, 16, .inr (.inr (.inr (.inr (fun _ => none)))))), (li, .inr (8, [.ref bm, .int 0, .int 0, .int 0, .int 0, .int 0, .int 0, .int 0, .ref mm])), (bm, .inr (10, [.int 0, .int 2, .int 2, .ref l2, .int 0, .int 0, .int 63, .int 0, .int 0, .ref bo, .ref h2])), (bo, .inl (cI, 24, .inl (fun _ => 0))), (mm, .inr (10, [.int 0, .int 2, .int 2, .ref l1, .int 0, .int 0, .int 63, .int 0, .int 0, .ref oo, .ref h1])), (oo, .inl (cI, 24, .inl (fun _ => 0))), (ju, .inr (7, [.ref rj, .ref ro, .ref wb, .ref jt, .ref br, .ref lk])), (rj, .inr (12, [.int 0, .int 0, .int 0, .int 0, .int 0, .int 0, .ref tj])), (tj, .inl (cI, 1001, .inl (fun _ => 0))), (ro, .inr (11, [.int 0, .int 0, .ref rn, .ref rh, .int 0, .ref ca, .ref sa, .ref da, .ref xa])), (rn, .inr (12, [.int 0, .int 0, .int 0, .int 0, .int 0, .int 0, .ref tn])), (tn, .inl (cI, 1001, .inl (fun _ => 0))), (rh, .inr (12, [.int 0, .int 0, .int 0, .int 0, .int 0, .int 0, .ref th])), (th, .inl (cI, 1001, .inl (fun _ => 0))), (ca, .inl (cI, 501, .inl (fun _ => 0))), (sa, .inl (cI, 501, .inl (fun _ => 0))), (da, .inl (cI, 501, .inl (fun _ => 0))), (xa, .inl (cI, 501, .inl (fun _ => 0))), (ou, .inl (cL, 1, .inr (.inl (fun _ => 0))))]) hD hS hA [0, 1, 2, 3, 4, 5, 6, 7, 8, 9, 10, 11, 12, 13, 14, 15, 16, 17, 18, 19] rfl
  refine vx_calli (vx_runSX (As := [.ref ya, .int s1, .int s2, .ref ou]) (rest := []) ⟨hx, hb, hml, hown, hts⟩ (c_L_champion l hfl dC dI cM cI ya ms ct tg fw li ju bm bo l2 h2 mm oo l1 h1 rj tj ro rn rh ca sa da xa tn th wb jt br lk 0 63 0 0 0 63 0 0 ((0, 0, 0, 0, 0, 0, fun _ => 0), 0, 0, 0, (0, 0, 0, 0, 0, 0, fun _ => 0), (0, 0, 0, 0, 0, 0, fun _ => 0), (fun _ => 0), (fun _ => 0), (fun _ => 0), (fun _ => 0), 0, fun _ => 0) s1 s2 cL ou (fun _ => 0) H.size) (vx_cwSW 4 hts gL_law_L_champion rfl rfl rfl (by decide +kernel) ⟨Nat.le_of_ble_eq_true rfl, Nat.le_of_ble_eq_true rfl⟩) (pcSz (zX_ok) hPc hDc hKc hN hZ.1 hS hFc) rfl rfl hl.1 rfl (lv_room (Nat.le_of_ble_eq_true rfl)) dL_law_1541 ⟨Nat.le_of_ble_eq_true rfl, Nat.le_of_ble_eq_true rfl⟩) hS (fun q _ h => hFc q h) hFc (fun q _ h => hFc q h) (fun E9 ce9 q9 u9 t9 H9 locs9 ht9 hvm9 hp9 hE9 hz9 hk9 hS9 hc9 hv9 hcl9 => hE9.elim) (fun r_4 u t H1 locs ht hvm hw_5 hB hz1 hk1 hS => ?_)
  obtain of_3 := u
  obtain ⟨hP1, hK1, hD1⟩ := hB
  rw [ht] at hP1
  try dsimp only at hw_5
  obtain ⟨hP, hD⟩ := va_join (wr := [(xm, .inr (20, [.int 0, .int 0, .ref kn, .int 0, .int 0, .int 0, .ref ml, .ref cl, .ref rg, .ref tR, .ref (aK 0), .ref (aK 0), .ref fl, .int 0, .int 0, .int 0, .int 0, .int 0, .int 0, .int 0, .null])), (ml, .inr (4, [.int 0, .ref e0, .int 0]))]) (w1 := [(ou, .inl (cL, 1, .inr (.inl of_3)))]) hP hD [0, 1, 2, 3, 4, 5, 6, 7, 8, 9, 10, 11, 12, 13, 14, 15, 16, 17, 18, 19] [20, 21] rfl rfl (by decide) (by decide) hk1 hFc hP1 hD1
  generalize H1 = H at hP hS ⊢
  have hP : va_P (dC, dI) vwCl [(xm, .inr (20, [.int 0, .int 0, .ref kn, .int 0, .int 0, .int 0, .ref ml, .ref cl, .ref rg, .ref tR, .ref (aK 0), .ref (aK 0), .ref fl, .int 0, .int 0, .int 0, .int 0, .int 0, .int 0, .int 0, .null])), (ml, .inr (4, [.int 0, .ref e0, .int 0])), (ou, .inl (cL, 1, .inr (.inl of_3)))] H := hP
  have hD : va_D A [(xm, .inr (20, [.int 0, .int 0, .ref kn, .int 0, .int 0, .int 0, .ref ml, .ref cl, .ref rg, .ref tR, .ref (aK 0), .ref (aK 0), .ref fl, .int 0, .int 0, .int 0, .int 0, .int 0, .int 0, .int 0, .null])), (ml, .inr (4, [.int 0, .ref e0, .int 0])), (ou, .inl (cL, 1, .inr (.inl of_3)))] := hD
  refine W.widen (k := 206) (n := 61053) (Nat.le_of_ble_eq_true rfl) (Nat.le_of_ble_eq_true rfl) ?_
  rcases hw_5 with ⟨hr0, hPP, hv0⟩ | ⟨hr0, hPP⟩
  · obtain rfl : r_4 = 0 := hr0
    refine lv_istore (lv' := [(6, .int 0), (0, .ref b), (1, .ref ya), (2, .ref xm), (3, .ref ou), (4, .ref od), (5, .int 0)]) hx hb dL_law_1544 hl (by decide) rfl (fun ls hl => ?_)
    refine lv_aload_n hx hb dL_law_1546 rfl (lv_at hl 3 rfl) ?_
    refine lv_aload_n hx hb dL_law_1547 rfl (lv_at hl 1 rfl) ?_
    refine lv_iload hx hb dL_law_1548 (lv_at hl 6 rfl) ?_
    refine lv_iconst (v := 1) hx hb dL_law_1550 (by decide) ?_
    refine lv_iadd hx hb dL_law_1551 ?_
    refine va_sld hx hb hX hbl hbA hS sx1 dL_law_1552 ?_
    refine lv_topi (fun x_6 ex_6 => ?_)
    obtain rfl : s1 = x_6 := (ex_6.trans hs1.symm).symm
    refine lv_aload_n hx hb dL_law_1553 rfl (lv_at hl 1 rfl) ?_
    refine lv_iload hx hb dL_law_1554 (lv_at hl 6 rfl) ?_
    refine lv_iconst (v := 2) hx hb dL_law_1556 (by decide) ?_
    refine lv_iadd hx hb dL_law_1557 ?_
    refine va_sld hx hb hX hbl hbA hS sx2 dL_law_1558 ?_
    refine lv_topi (fun x_7 ex_7 => ?_)
    obtain rfl : s2 = x_7 := (ex_7.trans hs2.symm).symm
    have hPc := hP.sub (ws' := [(xm, .inr (20, [.int 0, .int 0, .ref kn, .int 0, .int 0, .int 0, .ref ml, .ref cl, .ref rg, .ref tR, .ref (aK 0), .ref (aK 0), .ref fl, .int 0, .int 0, .int 0, .int 0, .int 0, .int 0, .int 0, .null])), (ml, .inr (4, [.int 0, .ref e0, .int 0]))]) [0, 1] rfl
    have hDc := hD.sub (ws' := [(xm, .inr (20, [.int 0, .int 0, .ref kn, .int 0, .int 0, .int 0, .ref ml, .ref cl, .ref rg, .ref tR, .ref (aK 0), .ref (aK 0), .ref fl, .int 0, .int 0, .int 0, .int 0, .int 0, .int 0, .int 0, .null])), (ml, .inr (4, [.int 0, .ref e0, .int 0]))]) [0, 1] (by decide) rfl
    have hKc := hK.sub (tys' := [(cI, .int)]) [0] rfl
    have hFc := va_free (wc := [(xm, .inr (20, [.int 0, .int 0, .ref kn, .int 0, .int 0, .int 0, .ref ml, .ref cl, .ref rg, .ref tR, .ref (aK 0), .ref (aK 0), .ref fl, .int 0, .int 0, .int 0, .int 0, .int 0, .int 0, .int 0, .null])), (ml, .inr (4, [.int 0, .ref e0, .int 0]))]) hD hS hA [0, 1] rfl
    refine va_calli (va_runV (As := [.int s1, .int s2]) (rest := []) ⟨hx, hb, hml, hown, hts⟩ (c_X15_champion l dC dI xm ml cl fl kn rg tR e0 aK aV cI s1 s2 H.size) (cwV 2 hts gL_law_X15_champion rfl rfl rfl (by decide +kernel) ⟨Nat.le_of_ble_eq_true rfl, Nat.le_of_ble_eq_true rfl⟩) (pcVz (zM_ok e0 aK aV) hPc hDc hKc hN hZ.2 hS hFc (ci := 20) (q0 := 0) rfl rfl) rfl rfl hl.1 rfl (lv_room (Nat.le_of_ble_eq_true rfl)) dL_law_1559 ⟨Nat.le_of_ble_eq_true rfl, Nat.le_of_ble_eq_true rfl⟩) hS (fun q _ h => hFc q h) hFc (fun r_9 u t H1 locs ht hvm hw_10 hB hz1 hk1 hS => ?_)
    obtain fs_8 := u
    obtain ⟨hP1, hK1, hD1⟩ := hB
    rw [ht] at hP1
    try dsimp only at hw_10
    obtain ⟨hP, hD⟩ := va_join (wr := [(ou, .inl (cL, 1, .inr (.inl of_3)))]) (w1 := [(xm, .inr (20, fs_8))]) hP hD [0, 1] [2] rfl rfl (by decide) (by decide) hk1 hFc hP1 hD1
    generalize H1 = H at hP hS ⊢
    have hP : va_P (dC, dI) vwCl [(ou, .inl (cL, 1, .inr (.inl of_3))), (xm, .inr (20, fs_8))] H := hP
    have hD : va_D A [(ou, .inl (cL, 1, .inr (.inl of_3))), (xm, .inr (20, fs_8))] := hD
    refine W.widen (k := 14547) (n := 5866489) (Nat.le_of_ble_eq_true rfl) (Nat.le_of_ble_eq_true rfl) ?_
    obtain ⟨ht9, hrv⟩ := hw_10.elim (fun h => h.2) (fun h => absurd hPP h.1)
    obtain rfl : r_9 = 0 := hrv
    refine lv_istore (lv' := [(7, .int 0), (6, .int 0), (0, .ref b), (1, .ref ya), (2, .ref xm), (3, .ref ou), (4, .ref od), (5, .int 0)]) hx hb dL_law_1562 hl (by decide) rfl (fun ls hl => ?_)
    refine lv_aload_n hx hb dL_law_1564 rfl (lv_at hl 4 rfl) ?_
    have hPc := hP.sub (ws' := [(xm, .inr (20, fs_8))]) [1] rfl
    have hDc := hD.sub (ws' := [(xm, .inr (20, fs_8))]) [1] (by decide) rfl
    have hKc := hK.sub (tys' := []) [] rfl
    have hFc := va_free (wc := [(xm, .inr (20, fs_8))]) hD hS hA [1] rfl
    refine va_calli (va_runV (As := []) (rest := []) ⟨hx, hb, hml, hown, hts⟩ (c_X15_thrown l dC dI xm fs_8 0 ht9 H.size) (cwV 0 hts gL_law_X15_thrown rfl rfl rfl (by decide +kernel) ⟨Nat.le_of_ble_eq_true rfl, Nat.le_of_ble_eq_true rfl⟩) (pcV hPc hDc hKc hN (ci := 20) (q0 := 0) rfl rfl) rfl rfl hl.1 rfl (lv_room (Nat.le_of_ble_eq_true rfl)) dL_law_1565 ⟨Nat.le_of_ble_eq_true rfl, Nat.le_of_ble_eq_true rfl⟩) hS (fun q _ h => hFc q h) hFc (fun r_11 u t H1 locs ht hvm hw_12 hB hz1 hk1 hS => ?_)
    obtain ⟨hP1, hK1, hD1⟩ := hB
    rw [ht] at hP1
    try dsimp only at hw_12
    obtain ⟨hP, hD⟩ := va_join (wr := [(ou, .inl (cL, 1, .inr (.inl of_3)))]) (w1 := []) hP hD [1] [0] rfl rfl (by decide) (by decide) hk1 hFc hP1 hD1
    generalize H1 = H at hP hS ⊢
    have hP : va_P (dC, dI) vwCl [(ou, .inl (cL, 1, .inr (.inl of_3)))] H := hP
    have hD : va_D A [(ou, .inl (cL, 1, .inr (.inl of_3)))] := hD
    obtain rfl : r_11 = 0 := hw_12
    refine lv_iload hx hb dL_law_1568 (lv_at hl 1 rfl) ?_
    refine lv_icmp_eq (tgt := 1575) hx hb dL_law_1570 (by decide) (fun c1570_13 => ?_) (fun c1570_13 => ?_)
    · refine lv_iload hx hb dL_law_1575 (lv_at hl 1 rfl) ?_
      refine lv_if_ne (tgt := 1592) hx hb dL_law_1577 (by decide) (fun c1577_14 => ?_) (fun c1577_14 => ?_)
      · exact (c1577_14 (by decide)).elim
      · refine lv_aload_n hx hb dL_law_1580 rfl (lv_at hl 5 rfl) ?_
        refine lv_iconst (v := 0) hx hb dL_law_1581 (by decide) ?_
        refine va_lald hx hb hK hP 0 2 rfl rfl (show vp_in (nI 0) 1 from vp_in_nI (by decide) (by decide)) dL_law_1582 ?_
        refine lv_topl (fun z_15 ez_15 => ?_)
        obtain rfl : z_15 = (0 : Int32).toInt64 := by rw [ez_15, show (0 : Int32).toNatClampNeg = 0 from by decide]; exact hv0
        refine lv_iload hx hb dL_law_1583 (lv_at hl 0 rfl) ?_
        refine lv_i2l hx hb dL_law_1585 rfl ?_
        refine W.lcmp hx hb dL_law_1586 ?_
        refine lv_if_eq (tgt := 1592) hx hb dL_law_1587 (by decide) (fun c1587_16 => ?_) (fun c1587_16 => ?_)
        · refine lv_goto (tgt := 2778) hx hb dL_law_1592 (by decide) ?_
          refine W.widen (k := 600006) (n := 7302039) (Nat.le_of_ble_eq_true rfl) (Nat.le_of_ble_eq_true rfl) ?_
          exact law_end hx hb hr hml hX hbl hlocks hbA hAo hS (lv_sub hl [2, 7] rfl)
        · exact absurd ((lg_cmp_eq _ _).mpr rfl) c1587_16
    · exact (c1570_13 (by decide)).elim
  · obtain rfl : r_4 = 1 := hr0
    refine lv_istore (lv' := [(6, .int 1), (0, .ref b), (1, .ref ya), (2, .ref xm), (3, .ref ou), (4, .ref od), (5, .int 0)]) hx hb dL_law_1544 hl (by decide) rfl (fun ls hl => ?_)
    refine lv_aload_n hx hb dL_law_1546 rfl (lv_at hl 3 rfl) ?_
    refine lv_aload_n hx hb dL_law_1547 rfl (lv_at hl 1 rfl) ?_
    refine lv_iload hx hb dL_law_1548 (lv_at hl 6 rfl) ?_
    refine lv_iconst (v := 1) hx hb dL_law_1550 (by decide) ?_
    refine lv_iadd hx hb dL_law_1551 ?_
    refine va_sld hx hb hX hbl hbA hS sx1 dL_law_1552 ?_
    refine lv_topi (fun x_17 ex_17 => ?_)
    obtain rfl : s1 = x_17 := (ex_17.trans hs1.symm).symm
    refine lv_aload_n hx hb dL_law_1553 rfl (lv_at hl 1 rfl) ?_
    refine lv_iload hx hb dL_law_1554 (lv_at hl 6 rfl) ?_
    refine lv_iconst (v := 2) hx hb dL_law_1556 (by decide) ?_
    refine lv_iadd hx hb dL_law_1557 ?_
    refine va_sld hx hb hX hbl hbA hS sx2 dL_law_1558 ?_
    refine lv_topi (fun x_18 ex_18 => ?_)
    obtain rfl : s2 = x_18 := (ex_18.trans hs2.symm).symm
    have hPc := hP.sub (ws' := [(xm, .inr (20, [.int 0, .int 0, .ref kn, .int 0, .int 0, .int 0, .ref ml, .ref cl, .ref rg, .ref tR, .ref (aK 0), .ref (aK 0), .ref fl, .int 0, .int 0, .int 0, .int 0, .int 0, .int 0, .int 0, .null])), (ml, .inr (4, [.int 0, .ref e0, .int 0]))]) [0, 1] rfl
    have hDc := hD.sub (ws' := [(xm, .inr (20, [.int 0, .int 0, .ref kn, .int 0, .int 0, .int 0, .ref ml, .ref cl, .ref rg, .ref tR, .ref (aK 0), .ref (aK 0), .ref fl, .int 0, .int 0, .int 0, .int 0, .int 0, .int 0, .int 0, .null])), (ml, .inr (4, [.int 0, .ref e0, .int 0]))]) [0, 1] (by decide) rfl
    have hKc := hK.sub (tys' := [(cI, .int)]) [0] rfl
    have hFc := va_free (wc := [(xm, .inr (20, [.int 0, .int 0, .ref kn, .int 0, .int 0, .int 0, .ref ml, .ref cl, .ref rg, .ref tR, .ref (aK 0), .ref (aK 0), .ref fl, .int 0, .int 0, .int 0, .int 0, .int 0, .int 0, .int 0, .null])), (ml, .inr (4, [.int 0, .ref e0, .int 0]))]) hD hS hA [0, 1] rfl
    refine va_calli (va_runV (As := [.int s1, .int s2]) (rest := []) ⟨hx, hb, hml, hown, hts⟩ (c_X15_champion l dC dI xm ml cl fl kn rg tR e0 aK aV cI s1 s2 H.size) (cwV 2 hts gL_law_X15_champion rfl rfl rfl (by decide +kernel) ⟨Nat.le_of_ble_eq_true rfl, Nat.le_of_ble_eq_true rfl⟩) (pcVz (zM_ok e0 aK aV) hPc hDc hKc hN hZ.2 hS hFc (ci := 20) (q0 := 0) rfl rfl) rfl rfl hl.1 rfl (lv_room (Nat.le_of_ble_eq_true rfl)) dL_law_1559 ⟨Nat.le_of_ble_eq_true rfl, Nat.le_of_ble_eq_true rfl⟩) hS (fun q _ h => hFc q h) hFc (fun r_20 u t H1 locs ht hvm hw_21 hB hz1 hk1 hS => ?_)
    obtain fs_19 := u
    obtain ⟨hP1, hK1, hD1⟩ := hB
    rw [ht] at hP1
    try dsimp only at hw_21
    obtain ⟨hP, hD⟩ := va_join (wr := [(ou, .inl (cL, 1, .inr (.inl of_3)))]) (w1 := [(xm, .inr (20, fs_19))]) hP hD [0, 1] [2] rfl rfl (by decide) (by decide) hk1 hFc hP1 hD1
    generalize H1 = H at hP hS ⊢
    have hP : va_P (dC, dI) vwCl [(ou, .inl (cL, 1, .inr (.inl of_3))), (xm, .inr (20, fs_19))] H := hP
    have hD : va_D A [(ou, .inl (cL, 1, .inr (.inl of_3))), (xm, .inr (20, fs_19))] := hD
    refine W.widen (k := 14547) (n := 5866489) (Nat.le_of_ble_eq_true rfl) (Nat.le_of_ble_eq_true rfl) ?_
    have ht9 := hw_21.elim (fun h => absurd h.1 hPP) (fun h => h.2)
    refine lv_istore (lv' := [(7, .int r_20), (6, .int 1), (0, .ref b), (1, .ref ya), (2, .ref xm), (3, .ref ou), (4, .ref od), (5, .int 0)]) hx hb dL_law_1562 hl (by decide) rfl (fun ls hl => ?_)
    refine lv_aload_n hx hb dL_law_1564 rfl (lv_at hl 4 rfl) ?_
    have hPc := hP.sub (ws' := [(xm, .inr (20, fs_19))]) [1] rfl
    have hDc := hD.sub (ws' := [(xm, .inr (20, fs_19))]) [1] (by decide) rfl
    have hKc := hK.sub (tys' := []) [] rfl
    have hFc := va_free (wc := [(xm, .inr (20, fs_19))]) hD hS hA [1] rfl
    refine va_calli (va_runV (As := []) (rest := []) ⟨hx, hb, hml, hown, hts⟩ (c_X15_thrown l dC dI xm fs_19 1 ht9 H.size) (cwV 0 hts gL_law_X15_thrown rfl rfl rfl (by decide +kernel) ⟨Nat.le_of_ble_eq_true rfl, Nat.le_of_ble_eq_true rfl⟩) (pcV hPc hDc hKc hN (ci := 20) (q0 := 0) rfl rfl) rfl rfl hl.1 rfl (lv_room (Nat.le_of_ble_eq_true rfl)) dL_law_1565 ⟨Nat.le_of_ble_eq_true rfl, Nat.le_of_ble_eq_true rfl⟩) hS (fun q _ h => hFc q h) hFc (fun r_22 u t H1 locs ht hvm hw_23 hB hz1 hk1 hS => ?_)
    obtain ⟨hP1, hK1, hD1⟩ := hB
    rw [ht] at hP1
    try dsimp only at hw_23
    obtain ⟨hP, hD⟩ := va_join (wr := [(ou, .inl (cL, 1, .inr (.inl of_3)))]) (w1 := []) hP hD [1] [0] rfl rfl (by decide) (by decide) hk1 hFc hP1 hD1
    generalize H1 = H at hP hS ⊢
    have hP : va_P (dC, dI) vwCl [(ou, .inl (cL, 1, .inr (.inl of_3)))] H := hP
    have hD : va_D A [(ou, .inl (cL, 1, .inr (.inl of_3)))] := hD
    obtain rfl : r_22 = 1 := hw_23
    refine lv_iload hx hb dL_law_1568 (lv_at hl 1 rfl) ?_
    refine lv_icmp_eq (tgt := 1575) hx hb dL_law_1570 (by decide) (fun c1570_24 => ?_) (fun c1570_24 => ?_)
    · refine lv_iload hx hb dL_law_1575 (lv_at hl 1 rfl) ?_
      refine lv_if_ne (tgt := 1592) hx hb dL_law_1577 (by decide) (fun c1577_25 => ?_) (fun c1577_25 => ?_)
      · refine lv_goto (tgt := 2778) hx hb dL_law_1592 (by decide) ?_
        refine W.widen (k := 600006) (n := 7302039) (Nat.le_of_ble_eq_true rfl) (Nat.le_of_ble_eq_true rfl) ?_
        exact law_end hx hb hr hml hX hbl hlocks hbA hAo hS (lv_sub hl [2, 7] rfl)
      · exact absurd c1577_25 (by decide)
    · exact (c1570_24 (by decide)).elim

set_option maxHeartbeats 8000000 in
set_option maxRecDepth 100000 in
/-- the law: law_19_haltingShare -/
theorem law_19_haltingShare {p : Program} {e : Env} {s : State} {m : MethodId} {below : List Frame} {meth : Method} {c : Code} {l : Launch} {b : Nat} {xs : Nat → Int32} (hx : p.tables.exec = Jvm.exec) (hb : c.code = cL_law) (hr : meth.sig.returnType = ret) (hml : c.maxLocals = 9) (hfl : l.stackTraces = false) (hown : s.vm.findClass RL = some m.cls) (hts : ∀ w ∈ wsL_law, w.before #[Value.ref b] s = true) (hX : va_X b 7 xs s s.heap) (hbl : b < s.heap.size) (hlocks : meth.locks = false) {A : Nat → Prop} (hbA : ¬ A b) (hAo : ∀ q, A q → s.heap.size ≤ q) (hA : ∀ q : Nat, s.heap.size ≤ q → A q) (dC : Nat → ClassId) (dI : Nat → Nat → Nat) (hN : nwA s) (e0 : Nat) (aK aV : Nat → Nat) (hZ : zX A s s.heap ∧ zM e0 aK aV A s s.heap) (ya ms ju rj tj ro rn tn rh th ca sa da xa wb z1 z2 jt z3 br z4 z5 z6 lk z7 z8 li bm l2 z9 bo h2 mm l1 z10 oo h1 ct cr cu cg cp co tg ts tr tk te fw fo fu xm ml cl fl rg tR ou od kn : Nat) (cI cM cS cL cD cB : ClassId) {H : Heap} {locs : List Loc} (hP : va_P (dC, dI) vwCl [(ya, .inr (16, [.ref ms, .int 0, .ref ju, .ref li, .ref ct, .ref tg, .ref fw])), (li, .inr (8, [.ref bm, .int 0, .int 0, .int 0, .int 0, .int 0, .int 0, .int 0, .ref mm])), (bm, .inr (10, [.int 0, .int 2, .int 2, .ref l2, .int 0, .int 0, .int 63, .int 0, .int 0, .ref bo, .ref h2])), (bo, .inl (cI, 24, .inl (fun _ => 0))), (mm, .inr (10, [.int 0, .int 2, .int 2, .ref l1, .int 0, .int 0, .int 63, .int 0, .int 0, .ref oo, .ref h1])), (oo, .inl (cI, 24, .inl (fun _ => 0))), (ju, .inr (7, [.ref rj, .ref ro, .ref wb, .ref jt, .ref br, .ref lk])), (rj, .inr (12, [.int 0, .int 0, .int 0, .int 0, .int 0, .int 0, .ref tj])), (tj, .inl (cI, 1001, .inl (fun _ => 0))), (ro, .inr (11, [.int 0, .int 0, .ref rn, .ref rh, .int 0, .ref ca, .ref sa, .ref da, .ref xa])), (rn, .inr (12, [.int 0, .int 0, .int 0, .int 0, .int 0, .int 0, .ref tn])), (tn, .inl (cI, 1001, .inl (fun _ => 0))), (rh, .inr (12, [.int 0, .int 0, .int 0, .int 0, .int 0, .int 0, .ref th])), (th, .inl (cI, 1001, .inl (fun _ => 0))), (ca, .inl (cI, 501, .inl (fun _ => 0))), (sa, .inl (cI, 501, .inl (fun _ => 0))), (da, .inl (cI, 501, .inl (fun _ => 0))), (xa, .inl (cI, 501, .inl (fun _ => 0))), (od, .inl (cD, 1, .inr (.inr (.inr (.inl (fun _ => 0)))))), (xm, .inr (20, [.int 0, .int 0, .ref kn, .int 0, .int 0, .int 0, .ref ml, .ref cl, .ref rg, .ref tR, .ref (aK 0), .ref (aK 0), .ref fl, .int 0, .int 0, .int 0, .int 0, .int 0, .int 0, .int 0, .null]))] H) (hD : va_D A [(ya, .inr (16, [.ref ms, .int 0, .ref ju, .ref li, .ref ct, .ref tg, .ref fw])), (li, .inr (8, [.ref bm, .int 0, .int 0, .int 0, .int 0, .int 0, .int 0, .int 0, .ref mm])), (bm, .inr (10, [.int 0, .int 2, .int 2, .ref l2, .int 0, .int 0, .int 63, .int 0, .int 0, .ref bo, .ref h2])), (bo, .inl (cI, 24, .inl (fun _ => 0))), (mm, .inr (10, [.int 0, .int 2, .int 2, .ref l1, .int 0, .int 0, .int 63, .int 0, .int 0, .ref oo, .ref h1])), (oo, .inl (cI, 24, .inl (fun _ => 0))), (ju, .inr (7, [.ref rj, .ref ro, .ref wb, .ref jt, .ref br, .ref lk])), (rj, .inr (12, [.int 0, .int 0, .int 0, .int 0, .int 0, .int 0, .ref tj])), (tj, .inl (cI, 1001, .inl (fun _ => 0))), (ro, .inr (11, [.int 0, .int 0, .ref rn, .ref rh, .int 0, .ref ca, .ref sa, .ref da, .ref xa])), (rn, .inr (12, [.int 0, .int 0, .int 0, .int 0, .int 0, .int 0, .ref tn])), (tn, .inl (cI, 1001, .inl (fun _ => 0))), (rh, .inr (12, [.int 0, .int 0, .int 0, .int 0, .int 0, .int 0, .ref th])), (th, .inl (cI, 1001, .inl (fun _ => 0))), (ca, .inl (cI, 501, .inl (fun _ => 0))), (sa, .inl (cI, 501, .inl (fun _ => 0))), (da, .inl (cI, 501, .inl (fun _ => 0))), (xa, .inl (cI, 501, .inl (fun _ => 0))), (od, .inl (cD, 1, .inr (.inr (.inr (.inl (fun _ => 0)))))), (xm, .inr (20, [.int 0, .int 0, .ref kn, .int 0, .int 0, .int 0, .ref ml, .ref cl, .ref rg, .ref tR, .ref (aK 0), .ref (aK 0), .ref fl, .int 0, .int 0, .int 0, .int 0, .int 0, .int 0, .int 0, .null]))]) (hK : va_K (dC, dI) vwCl [(cI, .int), (cD, .double)] s) (hS : va_S A s.heap H locs) {ls : Array Slot} (hl : lv_has ls 9 [(0, .ref b), (1, .ref ya), (2, .ref xm), (3, .ref ou), (4, .ref od), (5, .int 0)]) : W p l e room_1 s m #[Value.ref b] below meth c H locs 200 60000 (lw_Z below #[Value.ref b] s) (F0 m 1595 ls []) := by
  obtain ⟨s1, hs1⟩ : ∃ z, z = xs ((0 : Int32) + 1).toNatClampNeg := ⟨_, rfl⟩
  obtain ⟨s2, hs2⟩ : ∃ z, z = xs ((0 : Int32) + 2).toNatClampNeg := ⟨_, rfl⟩
  obtain ⟨s3, hs3⟩ : ∃ z, z = xs ((0 : Int32) + 3).toNatClampNeg := ⟨_, rfl⟩
  obtain ⟨s4, hs4⟩ : ∃ z, z = xs ((0 : Int32) + 4).toNatClampNeg := ⟨_, rfl⟩
  obtain ⟨s5, hs5⟩ : ∃ z, z = xs ((0 : Int32) + 5).toNatClampNeg := ⟨_, rfl⟩
  obtain ⟨s6, hs6⟩ : ∃ z, z = xs ((0 : Int32) + 6).toNatClampNeg := ⟨_, rfl⟩
  obtain ⟨k1, hk1⟩ : ∃ z, z = (s1.toUInt32 % 65536).toInt32 := ⟨_, rfl⟩
  obtain ⟨k2, hk2⟩ : ∃ z, z = (s2.toUInt32 % 65536).toInt32 := ⟨_, rfl⟩
  obtain ⟨k3, hk3⟩ : ∃ z, z = (s3.toUInt32 % 65536).toInt32 := ⟨_, rfl⟩
  obtain ⟨k4, hk4⟩ : ∃ z, z = (s4.toUInt32 % 65536).toInt32 := ⟨_, rfl⟩
  obtain ⟨k5, hk5⟩ : ∃ z, z = (s5.toUInt32 % 65536).toInt32 := ⟨_, rfl⟩
  obtain ⟨k6, hk6⟩ : ∃ z, z = (s6.toUInt32 % 65536).toInt32 := ⟨_, rfl⟩
  refine lv_aload_n hx hb dL_law_1595 rfl (lv_at hl 1 rfl) ?_
  refine lv_aload_n hx hb dL_law_1596 rfl (lv_at hl 0 rfl) ?_
  refine lv_iload hx hb dL_law_1597 (lv_at hl 5 rfl) ?_
  refine lv_iconst (v := 1) hx hb dL_law_1599 (by decide) ?_
  refine lv_iadd hx hb dL_law_1600 ?_
  refine va_sld hx hb hX hbl hbA hS sx1 dL_law_1601 ?_
  refine lv_topi (fun x_1 ex_1 => ?_)
  obtain rfl : s1 = x_1 := (ex_1.trans hs1.symm).symm
  refine lv_aload_n hx hb dL_law_1602 rfl (lv_at hl 0 rfl) ?_
  refine lv_iload hx hb dL_law_1603 (lv_at hl 5 rfl) ?_
  refine lv_iconst (v := 2) hx hb dL_law_1605 (by decide) ?_
  refine lv_iadd hx hb dL_law_1606 ?_
  refine va_sld hx hb hX hbl hbA hS sx2 dL_law_1607 ?_
  refine lv_topi (fun x_2 ex_2 => ?_)
  obtain rfl : s2 = x_2 := (ex_2.trans hs2.symm).symm
  refine lv_aload hx hb dL_law_1608 (lv_at hl 4 rfl) ?_
  have hPc := hP.sub (ws' := [(ya, .inr (16, [.ref ms, .int 0, .ref ju, .ref li, .ref ct, .ref tg, .ref fw])), (li, .inr (8, [.ref bm, .int 0, .int 0, .int 0, .int 0, .int 0, .int 0, .int 0, .ref mm])), (bm, .inr (10, [.int 0, .int 2, .int 2, .ref l2, .int 0, .int 0, .int 63, .int 0, .int 0, .ref bo, .ref h2])), (bo, .inl (cI, 24, .inl (fun _ => 0))), (mm, .inr (10, [.int 0, .int 2, .int 2, .ref l1, .int 0, .int 0, .int 63, .int 0, .int 0, .ref oo, .ref h1])), (oo, .inl (cI, 24, .inl (fun _ => 0))), (ju, .inr (7, [.ref rj, .ref ro, .ref wb, .ref jt, .ref br, .ref lk])), (rj, .inr (12, [.int 0, .int 0, .int 0, .int 0, .int 0, .int 0, .ref tj])), (tj, .inl (cI, 1001, .inl (fun _ => 0))), (ro, .inr (11, [.int 0, .int 0, .ref rn, .ref rh, .int 0, .ref ca, .ref sa, .ref da, .ref xa])), (rn, .inr (12, [.int 0, .int 0, .int 0, .int 0, .int 0, .int 0, .ref tn])), (tn, .inl (cI, 1001, .inl (fun _ => 0))), (rh, .inr (12, [.int 0, .int 0, .int 0, .int 0, .int 0, .int 0, .ref th])), (th, .inl (cI, 1001, .inl (fun _ => 0))), (ca, .inl (cI, 501, .inl (fun _ => 0))), (sa, .inl (cI, 501, .inl (fun _ => 0))), (da, .inl (cI, 501, .inl (fun _ => 0))), (xa, .inl (cI, 501, .inl (fun _ => 0))), (od, .inl (cD, 1, .inr (.inr (.inr (.inl (fun _ => 0))))))]) [0, 1, 2, 3, 4, 5, 6, 7, 8, 9, 10, 11, 12, 13, 14, 15, 16, 17, 18] rfl
  have hDc := hD.sub (ws' := [(ya, .inr (16, [.ref ms, .int 0, .ref ju, .ref li, .ref ct, .ref tg, .ref fw])), (li, .inr (8, [.ref bm, .int 0, .int 0, .int 0, .int 0, .int 0, .int 0, .int 0, .ref mm])), (bm, .inr (10, [.int 0, .int 2, .int 2, .ref l2, .int 0, .int 0, .int 63, .int 0, .int 0, .ref bo, .ref h2])), (bo, .inl (cI, 24, .inl (fun _ => 0))), (mm, .inr (10, [.int 0, .int 2, .int 2, .ref l1, .int 0, .int 0, .int 63, .int 0, .int 0, .ref oo, .ref h1])), (oo, .inl (cI, 24, .inl (fun _ => 0))), (ju, .inr (7, [.ref rj, .ref ro, .ref wb, .ref jt, .ref br, .ref lk])), (rj, .inr (12, [.int 0, .int 0, .int 0, .int 0, .int 0, .int 0, .ref tj])), (tj, .inl (cI, 1001, .inl (fun _ => 0))), (ro, .inr (11, [.int 0, .int 0, .ref rn, .ref rh, .int 0, .ref ca, .ref sa, .ref da, .ref xa])), (rn, .inr (12, [.int 0, .int 0, .int 0, .int 0, .int 0, .int 0, .ref tn])), (tn, .inl (cI, 1001, .inl (fun _ => 0))), (rh, .inr (12, [.int 0, .int 0, .int 0, .int 0, .int 0, .int 0, .ref th])), (th, .inl (cI, 1001, .inl (fun _ => 0))), (ca, .inl (cI, 501, .inl (fun _ => 0))), (sa, .inl (cI, 501, .inl (fun _ => 0))), (da, .inl (cI, 501, .inl (fun _ => 0))), (xa, .inl (cI, 501, .inl (fun _ => 0))), (od, .inl (cD, 1, .inr (.inr (.inr (.inl (fun _ => 0))))))]) [0, 1, 2, 3, 4, 5, 6, 7, 8, 9, 10, 11, 12, 13, 14, 15, 16, 17, 18] (by decide) rfl
  have hKc := hK.sub (tys' := [(cI, .int), (cD, .double)]) [0, 1] rfl
  have hFc := va_free (wc := [(ya, .inr (16, [.ref ms, .int 0, .ref ju, .ref li, .ref ct, .ref tg, .ref fw])), (li, .inr (8, [.ref bm, .int 0, .int 0, .int 0, .int 0, .int 0, .int 0, .int 0, .ref mm])), (bm, .inr (10, [.int 0, .int 2, .int 2, .ref l2, .int 0, .int 0, .int 63, .int 0, .int 0, .ref bo, .ref h2])), (bo, .inl (cI, 24, .inl (fun _ => 0))), (mm, .inr (10, [.int 0, .int 2, .int 2, .ref l1, .int 0, .int 0, .int 63, .int 0, .int 0, .ref oo, .ref h1])), (oo, .inl (cI, 24, .inl (fun _ => 0))), (ju, .inr (7, [.ref rj, .ref ro, .ref wb, .ref jt, .ref br, .ref lk])), (rj, .inr (12, [.int 0, .int 0, .int 0, .int 0, .int 0, .int 0, .ref tj])), (tj, .inl (cI, 1001, .inl (fun _ => 0))), (ro, .inr (11, [.int 0, .int 0, .ref rn, .ref rh, .int 0, .ref ca, .ref sa, .ref da, .ref xa])), (rn, .inr (12, [.int 0, .int 0, .int 0, .int 0, .int 0, .int 0, .ref tn])), (tn, .inl (cI, 1001, .inl (fun _ => 0))), (rh, .inr (12, [.int 0, .int 0, .int 0, .int 0, .int 0, .int 0, .ref th])), (th, .inl (cI, 1001, .inl (fun _ => 0))), (ca, .inl (cI, 501, .inl (fun _ => 0))), (sa, .inl (cI, 501, .inl (fun _ => 0))), (da, .inl (cI, 501, .inl (fun _ => 0))), (xa, .inl (cI, 501, .inl (fun _ => 0))), (od, .inl (cD, 1, .inr (.inr (.inr (.inl (fun _ => 0))))))]) hD hS hA [0, 1, 2, 3, 4, 5, 6, 7, 8, 9, 10, 11, 12, 13, 14, 15, 16, 17, 18] rfl
  refine vx_calli (vx_runSX (As := [.ref ya, .int s1, .int s2, .ref od]) (rest := []) ⟨hx, hb, hml, hown, hts⟩ (c_L_haltingShare l hfl dC dI cI ya ms ct tg fw li ju bm bo l2 h2 mm oo l1 h1 rj tj ro rn rh ca sa da xa tn th wb jt br lk 0 63 0 0 0 63 0 0 ((0, 0, 0, 0, 0, 0, fun _ => 0), 0, 0, 0, (0, 0, 0, 0, 0, 0, fun _ => 0), (0, 0, 0, 0, 0, 0, fun _ => 0), (fun _ => 0), (fun _ => 0), (fun _ => 0), (fun _ => 0), 0, fun _ => 0) s1 s2 cD od (fun _ => 0) H.size) (vx_cwSW 4 hts gL_law_L_haltingShare rfl rfl rfl (by decide +kernel) ⟨Nat.le_of_ble_eq_true rfl, Nat.le_of_ble_eq_true rfl⟩) (pcSz (zX_ok) hPc hDc hKc hN hZ.1 hS hFc) rfl rfl hl.1 rfl (lv_room (Nat.le_of_ble_eq_true rfl)) dL_law_1610 ⟨Nat.le_of_ble_eq_true rfl, Nat.le_of_ble_eq_true rfl⟩) hS (fun q _ h => hFc q h) hFc (fun q _ h => hFc q h) (fun E9 ce9 q9 u9 t9 H9 locs9 ht9 hvm9 hp9 hE9 hz9 hk9 hS9 hc9 hv9 hcl9 => hE9.elim) (fun r_4 u t H1 locs ht hvm hw_5 hB hz1 hk1 hS => ?_)
  obtain of_3 := u
  obtain ⟨hP1, hK1, hD1⟩ := hB
  rw [ht] at hP1
  try dsimp only at hw_5
  obtain ⟨hP, hD⟩ := va_join (wr := [(xm, .inr (20, [.int 0, .int 0, .ref kn, .int 0, .int 0, .int 0, .ref ml, .ref cl, .ref rg, .ref tR, .ref (aK 0), .ref (aK 0), .ref fl, .int 0, .int 0, .int 0, .int 0, .int 0, .int 0, .int 0, .null]))]) (w1 := [(od, .inl (cD, 1, .inr (.inr (.inr (.inl of_3)))))]) hP hD [0, 1, 2, 3, 4, 5, 6, 7, 8, 9, 10, 11, 12, 13, 14, 15, 16, 17, 18] [19] rfl rfl (by decide) (by decide) hk1 hFc hP1 hD1
  generalize H1 = H at hP hS ⊢
  have hP : va_P (dC, dI) vwCl [(xm, .inr (20, [.int 0, .int 0, .ref kn, .int 0, .int 0, .int 0, .ref ml, .ref cl, .ref rg, .ref tR, .ref (aK 0), .ref (aK 0), .ref fl, .int 0, .int 0, .int 0, .int 0, .int 0, .int 0, .int 0, .null])), (od, .inl (cD, 1, .inr (.inr (.inr (.inl of_3)))))] H := hP
  have hD : va_D A [(xm, .inr (20, [.int 0, .int 0, .ref kn, .int 0, .int 0, .int 0, .ref ml, .ref cl, .ref rg, .ref tR, .ref (aK 0), .ref (aK 0), .ref fl, .int 0, .int 0, .int 0, .int 0, .int 0, .int 0, .int 0, .null])), (od, .inl (cD, 1, .inr (.inr (.inr (.inl of_3)))))] := hD
  refine W.widen (k := 201) (n := 60006) (Nat.le_of_ble_eq_true rfl) (Nat.le_of_ble_eq_true rfl) ?_
  rcases hw_5 with ⟨hr0, hPP, hv0⟩ | ⟨hr0, hPP⟩
  · obtain rfl : r_4 = 0 := hr0
    refine lv_istore (lv' := [(6, .int 0), (0, .ref b), (1, .ref ya), (2, .ref xm), (3, .ref ou), (4, .ref od), (5, .int 0)]) hx hb dL_law_1613 hl (by decide) rfl (fun ls hl => ?_)
    refine lv_aload_n hx hb dL_law_1615 rfl (lv_at hl 3 rfl) ?_
    refine lv_aload_n hx hb dL_law_1616 rfl (lv_at hl 1 rfl) ?_
    refine lv_iload hx hb dL_law_1617 (lv_at hl 6 rfl) ?_
    refine lv_iconst (v := 1) hx hb dL_law_1619 (by decide) ?_
    refine lv_iadd hx hb dL_law_1620 ?_
    refine va_sld hx hb hX hbl hbA hS sx1 dL_law_1621 ?_
    refine lv_topi (fun x_6 ex_6 => ?_)
    obtain rfl : s1 = x_6 := (ex_6.trans hs1.symm).symm
    refine lv_aload_n hx hb dL_law_1622 rfl (lv_at hl 1 rfl) ?_
    refine lv_iload hx hb dL_law_1623 (lv_at hl 6 rfl) ?_
    refine lv_iconst (v := 2) hx hb dL_law_1625 (by decide) ?_
    refine lv_iadd hx hb dL_law_1626 ?_
    refine va_sld hx hb hX hbl hbA hS sx2 dL_law_1627 ?_
    refine lv_topi (fun x_7 ex_7 => ?_)
    obtain rfl : s2 = x_7 := (ex_7.trans hs2.symm).symm
    have hPc := hP.sub (ws' := [(xm, .inr (20, [.int 0, .int 0, .ref kn, .int 0, .int 0, .int 0, .ref ml, .ref cl, .ref rg, .ref tR, .ref (aK 0), .ref (aK 0), .ref fl, .int 0, .int 0, .int 0, .int 0, .int 0, .int 0, .int 0, .null]))]) [0] rfl
    have hDc := hD.sub (ws' := [(xm, .inr (20, [.int 0, .int 0, .ref kn, .int 0, .int 0, .int 0, .ref ml, .ref cl, .ref rg, .ref tR, .ref (aK 0), .ref (aK 0), .ref fl, .int 0, .int 0, .int 0, .int 0, .int 0, .int 0, .int 0, .null]))]) [0] (by decide) rfl
    have hKc := hK.sub (tys' := [(cI, .int)]) [0] rfl
    have hFc := va_free (wc := [(xm, .inr (20, [.int 0, .int 0, .ref kn, .int 0, .int 0, .int 0, .ref ml, .ref cl, .ref rg, .ref tR, .ref (aK 0), .ref (aK 0), .ref fl, .int 0, .int 0, .int 0, .int 0, .int 0, .int 0, .int 0, .null]))]) hD hS hA [0] rfl
    refine va_callf (va_runV (As := [.int s1, .int s2]) (rest := []) ⟨hx, hb, hml, hown, hts⟩ (c_X15_haltingShare l dC dI xm ml cl fl kn rg tR e0 aK aV cI s1 s2 H.size) (cwV 2 hts gL_law_X15_haltingShare rfl rfl rfl (by decide +kernel) ⟨Nat.le_of_ble_eq_true rfl, Nat.le_of_ble_eq_true rfl⟩) (pcVz (zM_ok e0 aK aV) hPc hDc hKc hN hZ.2 hS hFc (ci := 20) (q0 := 0) rfl rfl) rfl rfl hl.1 rfl (lv_room (Nat.le_of_ble_eq_true rfl)) dL_law_1628 ⟨Nat.le_of_ble_eq_true rfl, Nat.le_of_ble_eq_true rfl⟩) hS (fun q _ h => hFc q h) hFc (fun r_9 u t H1 locs ht hvm hw_10 hB hz1 hk1 hS => ?_)
    obtain fs_8 := u
    obtain ⟨hP1, hK1, hD1⟩ := hB
    rw [ht] at hP1
    try dsimp only at hw_10
    obtain ⟨hP, hD⟩ := va_join (wr := [(od, .inl (cD, 1, .inr (.inr (.inr (.inl of_3)))))]) (w1 := [(xm, .inr (20, fs_8))]) hP hD [0] [1] rfl rfl (by decide) (by decide) hk1 hFc hP1 hD1
    generalize H1 = H at hP hS ⊢
    have hP : va_P (dC, dI) vwCl [(od, .inl (cD, 1, .inr (.inr (.inr (.inl of_3))))), (xm, .inr (20, fs_8))] H := hP
    have hD : va_D A [(od, .inl (cD, 1, .inr (.inr (.inr (.inl of_3))))), (xm, .inr (20, fs_8))] := hD
    refine W.widen (k := 14541) (n := 5865432) (Nat.le_of_ble_eq_true rfl) (Nat.le_of_ble_eq_true rfl) ?_
    obtain ⟨ht9, hrv⟩ := hw_10.elim (fun h => h.2) (fun h => absurd hPP h.1)
    obtain rfl : r_9 = (shV (lsC s1 s2)) := hrv
    refine lv_fstore (lv' := [(7, .float (shV (lsC s1 s2))), (6, .int 0), (0, .ref b), (1, .ref ya), (2, .ref xm), (3, .ref ou), (4, .ref od), (5, .int 0)]) hx hb dL_law_1631 hl (by decide) rfl (fun ls hl => ?_)
    refine lv_aload_n hx hb dL_law_1633 rfl (lv_at hl 4 rfl) ?_
    have hPc := hP.sub (ws' := [(xm, .inr (20, fs_8))]) [1] rfl
    have hDc := hD.sub (ws' := [(xm, .inr (20, fs_8))]) [1] (by decide) rfl
    have hKc := hK.sub (tys' := []) [] rfl
    have hFc := va_free (wc := [(xm, .inr (20, fs_8))]) hD hS hA [1] rfl
    refine va_calli (va_runV (As := []) (rest := []) ⟨hx, hb, hml, hown, hts⟩ (c_X15_thrown l dC dI xm fs_8 0 ht9 H.size) (cwV 0 hts gL_law_X15_thrown rfl rfl rfl (by decide +kernel) ⟨Nat.le_of_ble_eq_true rfl, Nat.le_of_ble_eq_true rfl⟩) (pcV hPc hDc hKc hN (ci := 20) (q0 := 0) rfl rfl) rfl rfl hl.1 rfl (lv_room (Nat.le_of_ble_eq_true rfl)) dL_law_1634 ⟨Nat.le_of_ble_eq_true rfl, Nat.le_of_ble_eq_true rfl⟩) hS (fun q _ h => hFc q h) hFc (fun r_11 u t H1 locs ht hvm hw_12 hB hz1 hk1 hS => ?_)
    obtain ⟨hP1, hK1, hD1⟩ := hB
    rw [ht] at hP1
    try dsimp only at hw_12
    obtain ⟨hP, hD⟩ := va_join (wr := [(od, .inl (cD, 1, .inr (.inr (.inr (.inl of_3)))))]) (w1 := []) hP hD [1] [0] rfl rfl (by decide) (by decide) hk1 hFc hP1 hD1
    generalize H1 = H at hP hS ⊢
    have hP : va_P (dC, dI) vwCl [(od, .inl (cD, 1, .inr (.inr (.inr (.inl of_3)))))] H := hP
    have hD : va_D A [(od, .inl (cD, 1, .inr (.inr (.inr (.inl of_3)))))] := hD
    obtain rfl : r_11 = 0 := hw_12
    refine lv_iload hx hb dL_law_1637 (lv_at hl 1 rfl) ?_
    refine lv_icmp_eq (tgt := 1644) hx hb dL_law_1639 (by decide) (fun c1639_13 => ?_) (fun c1639_13 => ?_)
    · refine lv_iload hx hb dL_law_1644 (lv_at hl 1 rfl) ?_
      refine lv_if_ne (tgt := 1682) hx hb dL_law_1646 (by decide) (fun c1646_14 => ?_) (fun c1646_14 => ?_)
      · exact (c1646_14 (by decide)).elim
      · refine lv_aload hx hb dL_law_1649 (lv_at hl 6 rfl) ?_
        refine lv_iconst (v := 0) hx hb dL_law_1651 (by decide) ?_
        refine va_dald hx hb hK hP 0 1 rfl rfl (show vp_in (nI 0) 1 from vp_in_nI (by decide) (by decide)) dL_law_1652 ?_
        refine lv_topd (fun z_15 ez_15 => ?_)
        obtain rfl : z_15 = (FP.f2d (shV (lsC s1 s2))) := by rw [ez_15, show (0 : Int32).toNatClampNeg = 0 from by decide]; exact hv0
        refine lv_fload hx hb dL_law_1653 (lv_at hl 0 rfl) ?_
        refine lv_f2d hx hb dL_law_1655 (by obtain ⟨hs9, k9, hk1, hk2, ek9⟩ := lst_nums hPP; rw [ek9]; rcases hs9 with es9 | es9 <;> (rw [es9, lsC_nI (by decide) hk2]; exact sh_num64 (all_ne (by decide) (by decide)))) ?_
        refine lv_dcmp hx hb dL_law_1656 ?_
        refine lv_if_eq (tgt := 1682) hx hb dL_law_1657 (by decide) (fun c1657_16 => ?_) (fun c1657_16 => ?_)
        · refine lv_goto (tgt := 2778) hx hb dL_law_1682 (by decide) ?_
          refine W.widen (k := 600006) (n := 7302039) (Nat.le_of_ble_eq_true rfl) (Nat.le_of_ble_eq_true rfl) ?_
          exact law_end hx hb hr hml hX hbl hlocks hbA hAo hS (lv_sub hl [2, 7] rfl)
        · exact absurd (sh_cmp (by obtain ⟨hs9, k9, hk1, hk2, ek9⟩ := lst_nums hPP; rw [ek9]; rcases hs9 with es9 | es9 <;> (rw [es9, lsC_nI (by decide) hk2]; exact all_ne (by decide) (by decide)))) c1657_16
    · exact (c1639_13 (by decide)).elim
  · obtain rfl : r_4 = 1 := hr0
    refine lv_istore (lv' := [(6, .int 1), (0, .ref b), (1, .ref ya), (2, .ref xm), (3, .ref ou), (4, .ref od), (5, .int 0)]) hx hb dL_law_1613 hl (by decide) rfl (fun ls hl => ?_)
    refine lv_aload_n hx hb dL_law_1615 rfl (lv_at hl 3 rfl) ?_
    refine lv_aload_n hx hb dL_law_1616 rfl (lv_at hl 1 rfl) ?_
    refine lv_iload hx hb dL_law_1617 (lv_at hl 6 rfl) ?_
    refine lv_iconst (v := 1) hx hb dL_law_1619 (by decide) ?_
    refine lv_iadd hx hb dL_law_1620 ?_
    refine va_sld hx hb hX hbl hbA hS sx1 dL_law_1621 ?_
    refine lv_topi (fun x_17 ex_17 => ?_)
    obtain rfl : s1 = x_17 := (ex_17.trans hs1.symm).symm
    refine lv_aload_n hx hb dL_law_1622 rfl (lv_at hl 1 rfl) ?_
    refine lv_iload hx hb dL_law_1623 (lv_at hl 6 rfl) ?_
    refine lv_iconst (v := 2) hx hb dL_law_1625 (by decide) ?_
    refine lv_iadd hx hb dL_law_1626 ?_
    refine va_sld hx hb hX hbl hbA hS sx2 dL_law_1627 ?_
    refine lv_topi (fun x_18 ex_18 => ?_)
    obtain rfl : s2 = x_18 := (ex_18.trans hs2.symm).symm
    have hPc := hP.sub (ws' := [(xm, .inr (20, [.int 0, .int 0, .ref kn, .int 0, .int 0, .int 0, .ref ml, .ref cl, .ref rg, .ref tR, .ref (aK 0), .ref (aK 0), .ref fl, .int 0, .int 0, .int 0, .int 0, .int 0, .int 0, .int 0, .null]))]) [0] rfl
    have hDc := hD.sub (ws' := [(xm, .inr (20, [.int 0, .int 0, .ref kn, .int 0, .int 0, .int 0, .ref ml, .ref cl, .ref rg, .ref tR, .ref (aK 0), .ref (aK 0), .ref fl, .int 0, .int 0, .int 0, .int 0, .int 0, .int 0, .int 0, .null]))]) [0] (by decide) rfl
    have hKc := hK.sub (tys' := [(cI, .int)]) [0] rfl
    have hFc := va_free (wc := [(xm, .inr (20, [.int 0, .int 0, .ref kn, .int 0, .int 0, .int 0, .ref ml, .ref cl, .ref rg, .ref tR, .ref (aK 0), .ref (aK 0), .ref fl, .int 0, .int 0, .int 0, .int 0, .int 0, .int 0, .int 0, .null]))]) hD hS hA [0] rfl
    refine va_callf (va_runV (As := [.int s1, .int s2]) (rest := []) ⟨hx, hb, hml, hown, hts⟩ (c_X15_haltingShare l dC dI xm ml cl fl kn rg tR e0 aK aV cI s1 s2 H.size) (cwV 2 hts gL_law_X15_haltingShare rfl rfl rfl (by decide +kernel) ⟨Nat.le_of_ble_eq_true rfl, Nat.le_of_ble_eq_true rfl⟩) (pcVz (zM_ok e0 aK aV) hPc hDc hKc hN hZ.2 hS hFc (ci := 20) (q0 := 0) rfl rfl) rfl rfl hl.1 rfl (lv_room (Nat.le_of_ble_eq_true rfl)) dL_law_1628 ⟨Nat.le_of_ble_eq_true rfl, Nat.le_of_ble_eq_true rfl⟩) hS (fun q _ h => hFc q h) hFc (fun r_20 u t H1 locs ht hvm hw_21 hB hz1 hk1 hS => ?_)
    obtain fs_19 := u
    obtain ⟨hP1, hK1, hD1⟩ := hB
    rw [ht] at hP1
    try dsimp only at hw_21
    obtain ⟨hP, hD⟩ := va_join (wr := [(od, .inl (cD, 1, .inr (.inr (.inr (.inl of_3)))))]) (w1 := [(xm, .inr (20, fs_19))]) hP hD [0] [1] rfl rfl (by decide) (by decide) hk1 hFc hP1 hD1
    generalize H1 = H at hP hS ⊢
    have hP : va_P (dC, dI) vwCl [(od, .inl (cD, 1, .inr (.inr (.inr (.inl of_3))))), (xm, .inr (20, fs_19))] H := hP
    have hD : va_D A [(od, .inl (cD, 1, .inr (.inr (.inr (.inl of_3))))), (xm, .inr (20, fs_19))] := hD
    refine W.widen (k := 14541) (n := 5865432) (Nat.le_of_ble_eq_true rfl) (Nat.le_of_ble_eq_true rfl) ?_
    have ht9 := hw_21.elim (fun h => absurd h.1 hPP) (fun h => h.2)
    refine lv_fstore (lv' := [(7, .float r_20), (6, .int 1), (0, .ref b), (1, .ref ya), (2, .ref xm), (3, .ref ou), (4, .ref od), (5, .int 0)]) hx hb dL_law_1631 hl (by decide) rfl (fun ls hl => ?_)
    refine lv_aload_n hx hb dL_law_1633 rfl (lv_at hl 4 rfl) ?_
    have hPc := hP.sub (ws' := [(xm, .inr (20, fs_19))]) [1] rfl
    have hDc := hD.sub (ws' := [(xm, .inr (20, fs_19))]) [1] (by decide) rfl
    have hKc := hK.sub (tys' := []) [] rfl
    have hFc := va_free (wc := [(xm, .inr (20, fs_19))]) hD hS hA [1] rfl
    refine va_calli (va_runV (As := []) (rest := []) ⟨hx, hb, hml, hown, hts⟩ (c_X15_thrown l dC dI xm fs_19 1 ht9 H.size) (cwV 0 hts gL_law_X15_thrown rfl rfl rfl (by decide +kernel) ⟨Nat.le_of_ble_eq_true rfl, Nat.le_of_ble_eq_true rfl⟩) (pcV hPc hDc hKc hN (ci := 20) (q0 := 0) rfl rfl) rfl rfl hl.1 rfl (lv_room (Nat.le_of_ble_eq_true rfl)) dL_law_1634 ⟨Nat.le_of_ble_eq_true rfl, Nat.le_of_ble_eq_true rfl⟩) hS (fun q _ h => hFc q h) hFc (fun r_22 u t H1 locs ht hvm hw_23 hB hz1 hk1 hS => ?_)
    obtain ⟨hP1, hK1, hD1⟩ := hB
    rw [ht] at hP1
    try dsimp only at hw_23
    obtain ⟨hP, hD⟩ := va_join (wr := [(od, .inl (cD, 1, .inr (.inr (.inr (.inl of_3)))))]) (w1 := []) hP hD [1] [0] rfl rfl (by decide) (by decide) hk1 hFc hP1 hD1
    generalize H1 = H at hP hS ⊢
    have hP : va_P (dC, dI) vwCl [(od, .inl (cD, 1, .inr (.inr (.inr (.inl of_3)))))] H := hP
    have hD : va_D A [(od, .inl (cD, 1, .inr (.inr (.inr (.inl of_3)))))] := hD
    obtain rfl : r_22 = 1 := hw_23
    refine lv_iload hx hb dL_law_1637 (lv_at hl 1 rfl) ?_
    refine lv_icmp_eq (tgt := 1644) hx hb dL_law_1639 (by decide) (fun c1639_24 => ?_) (fun c1639_24 => ?_)
    · refine lv_iload hx hb dL_law_1644 (lv_at hl 1 rfl) ?_
      refine lv_if_ne (tgt := 1682) hx hb dL_law_1646 (by decide) (fun c1646_25 => ?_) (fun c1646_25 => ?_)
      · refine lv_goto (tgt := 2778) hx hb dL_law_1682 (by decide) ?_
        refine W.widen (k := 600006) (n := 7302039) (Nat.le_of_ble_eq_true rfl) (Nat.le_of_ble_eq_true rfl) ?_
        exact law_end hx hb hr hml hX hbl hlocks hbA hAo hS (lv_sub hl [2, 7] rfl)
      · exact absurd c1646_25 (by decide)
    · exact (c1639_24 (by decide)).elim

set_option maxHeartbeats 8000000 in
set_option maxRecDepth 100000 in
/-- the law: law_20_record -/
theorem law_20_record {p : Program} {e : Env} {s : State} {m : MethodId} {below : List Frame} {meth : Method} {c : Code} {l : Launch} {b : Nat} {xs : Nat → Int32} (hx : p.tables.exec = Jvm.exec) (hb : c.code = cL_law) (hr : meth.sig.returnType = ret) (hml : c.maxLocals = 9) (hfl : l.stackTraces = false) (hown : s.vm.findClass RL = some m.cls) (hts : ∀ w ∈ wsL_law, w.before #[Value.ref b] s = true) (hX : va_X b 7 xs s s.heap) (hbl : b < s.heap.size) (hlocks : meth.locks = false) {A : Nat → Prop} (hbA : ¬ A b) (hAo : ∀ q, A q → s.heap.size ≤ q) (hA : ∀ q : Nat, s.heap.size ≤ q → A q) (dC : Nat → ClassId) (dI : Nat → Nat → Nat) (hN : nwA s) (e0 : Nat) (aK aV : Nat → Nat) (hZ : zX A s s.heap ∧ zM e0 aK aV A s s.heap) (ya ms ju rj tj ro rn tn rh th ca sa da xa wb z1 z2 jt z3 br z4 z5 z6 lk z7 z8 li bm l2 z9 bo h2 mm l1 z10 oo h1 ct cr cu cg cp co tg ts tr tk te fw fo fu xm ml cl fl rg tR ou od kn : Nat) (cI cM cS cL cD cB : ClassId) {H : Heap} {locs : List Loc} (hP : va_P (dC, dI) vwCl [(ya, .inr (16, [.ref ms, .int 0, .ref ju, .ref li, .ref ct, .ref tg, .ref fw])), (ou, .inl (cL, 1, .inr (.inl (fun _ => 0)))), (xm, .inr (20, [.int 0, .int 0, .ref kn, .int 0, .int 0, .int 0, .ref ml, .ref cl, .ref rg, .ref tR, .ref (aK 0), .ref (aK 0), .ref fl, .int 0, .int 0, .int 0, .int 0, .int 0, .int 0, .int 0, .null])), (ml, .inr (4, [.int 0, .ref e0, .int 0]))] H) (hD : va_D A [(ya, .inr (16, [.ref ms, .int 0, .ref ju, .ref li, .ref ct, .ref tg, .ref fw])), (ou, .inl (cL, 1, .inr (.inl (fun _ => 0)))), (xm, .inr (20, [.int 0, .int 0, .ref kn, .int 0, .int 0, .int 0, .ref ml, .ref cl, .ref rg, .ref tR, .ref (aK 0), .ref (aK 0), .ref fl, .int 0, .int 0, .int 0, .int 0, .int 0, .int 0, .int 0, .null])), (ml, .inr (4, [.int 0, .ref e0, .int 0]))]) (hK : va_K (dC, dI) vwCl [(cL, .long)] s) (hS : va_S A s.heap H locs) {ls : Array Slot} (hl : lv_has ls 9 [(0, .ref b), (1, .ref ya), (2, .ref xm), (3, .ref ou), (4, .ref od), (5, .int 0)]) : W p l e room_1 s m #[Value.ref b] below meth c H locs 200 60000 (lw_Z below #[Value.ref b] s) (F0 m 1685 ls []) := by
  obtain ⟨s1, hs1⟩ : ∃ z, z = xs ((0 : Int32) + 1).toNatClampNeg := ⟨_, rfl⟩
  obtain ⟨s2, hs2⟩ : ∃ z, z = xs ((0 : Int32) + 2).toNatClampNeg := ⟨_, rfl⟩
  obtain ⟨s3, hs3⟩ : ∃ z, z = xs ((0 : Int32) + 3).toNatClampNeg := ⟨_, rfl⟩
  obtain ⟨s4, hs4⟩ : ∃ z, z = xs ((0 : Int32) + 4).toNatClampNeg := ⟨_, rfl⟩
  obtain ⟨s5, hs5⟩ : ∃ z, z = xs ((0 : Int32) + 5).toNatClampNeg := ⟨_, rfl⟩
  obtain ⟨s6, hs6⟩ : ∃ z, z = xs ((0 : Int32) + 6).toNatClampNeg := ⟨_, rfl⟩
  obtain ⟨k1, hk1⟩ : ∃ z, z = (s1.toUInt32 % 65536).toInt32 := ⟨_, rfl⟩
  obtain ⟨k2, hk2⟩ : ∃ z, z = (s2.toUInt32 % 65536).toInt32 := ⟨_, rfl⟩
  obtain ⟨k3, hk3⟩ : ∃ z, z = (s3.toUInt32 % 65536).toInt32 := ⟨_, rfl⟩
  obtain ⟨k4, hk4⟩ : ∃ z, z = (s4.toUInt32 % 65536).toInt32 := ⟨_, rfl⟩
  obtain ⟨k5, hk5⟩ : ∃ z, z = (s5.toUInt32 % 65536).toInt32 := ⟨_, rfl⟩
  obtain ⟨k6, hk6⟩ : ∃ z, z = (s6.toUInt32 % 65536).toInt32 := ⟨_, rfl⟩
  refine lv_aload_n hx hb dL_law_1685 rfl (lv_at hl 1 rfl) ?_
  refine lv_aload_n hx hb dL_law_1686 rfl (lv_at hl 0 rfl) ?_
  refine lv_iload hx hb dL_law_1687 (lv_at hl 5 rfl) ?_
  refine lv_iconst (v := 1) hx hb dL_law_1689 (by decide) ?_
  refine lv_iadd hx hb dL_law_1690 ?_
  refine va_sld hx hb hX hbl hbA hS sx1 dL_law_1691 ?_
  refine lv_topi (fun x_1 ex_1 => ?_)
  obtain rfl : s1 = x_1 := (ex_1.trans hs1.symm).symm
  refine lv_i2c hx hb dL_law_1692 rfl ?_
  refine lv_topi (fun x_2 ex_2 => ?_)
  obtain rfl : k1 = x_2 := (ex_2.trans hk1.symm).symm
  refine lv_aload_n hx hb dL_law_1693 rfl (lv_at hl 3 rfl) ?_
  have hPc := hP.sub (ws' := [(ya, .inr (16, [.ref ms, .int 0, .ref ju, .ref li, .ref ct, .ref tg, .ref fw])), (ou, .inl (cL, 1, .inr (.inl (fun _ => 0))))]) [0, 1] rfl
  have hDc := hD.sub (ws' := [(ya, .inr (16, [.ref ms, .int 0, .ref ju, .ref li, .ref ct, .ref tg, .ref fw])), (ou, .inl (cL, 1, .inr (.inl (fun _ => 0))))]) [0, 1] (by decide) rfl
  have hKc := hK.sub (tys' := [(cL, .long)]) [0] rfl
  have hFc := va_free (wc := [(ya, .inr (16, [.ref ms, .int 0, .ref ju, .ref li, .ref ct, .ref tg, .ref fw])), (ou, .inl (cL, 1, .inr (.inl (fun _ => 0))))]) hD hS hA [0, 1] rfl
  refine vx_calli (vx_runSX (As := [.ref ya, .int k1, .ref ou]) (rest := []) ⟨hx, hb, hml, hown, hts⟩ (c_L_record l hfl dC dI ya ms ju li ct tg fw k1 cL ou (fun _ => 0) H.size) (vx_cwSW 3 hts gL_law_L_record rfl rfl rfl (by decide +kernel) ⟨Nat.le_of_ble_eq_true rfl, Nat.le_of_ble_eq_true rfl⟩) (pcSz (zX_ok) hPc hDc hKc hN hZ.1 hS hFc) rfl rfl hl.1 rfl (lv_room (Nat.le_of_ble_eq_true rfl)) dL_law_1694 ⟨Nat.le_of_ble_eq_true rfl, Nat.le_of_ble_eq_true rfl⟩) hS (fun q _ h => hFc q h) hFc (fun q _ h => hFc q h) (fun E9 ce9 q9 u9 t9 H9 locs9 ht9 hvm9 hp9 hE9 hz9 hk9 hS9 hc9 hv9 hcl9 => hE9.elim) (fun r_4 u t H1 locs ht hvm hw_5 hB hz1 hk1 hS => ?_)
  obtain of_3 := u
  obtain ⟨hP1, hK1, hD1⟩ := hB
  rw [ht] at hP1
  try dsimp only at hw_5
  obtain ⟨hP, hD⟩ := va_join (wr := [(xm, .inr (20, [.int 0, .int 0, .ref kn, .int 0, .int 0, .int 0, .ref ml, .ref cl, .ref rg, .ref tR, .ref (aK 0), .ref (aK 0), .ref fl, .int 0, .int 0, .int 0, .int 0, .int 0, .int 0, .int 0, .null])), (ml, .inr (4, [.int 0, .ref e0, .int 0]))]) (w1 := [(ou, .inl (cL, 1, .inr (.inl of_3)))]) hP hD [0, 1] [2, 3] rfl rfl (by decide) (by decide) hk1 hFc hP1 hD1
  generalize H1 = H at hP hS ⊢
  have hP : va_P (dC, dI) vwCl [(xm, .inr (20, [.int 0, .int 0, .ref kn, .int 0, .int 0, .int 0, .ref ml, .ref cl, .ref rg, .ref tR, .ref (aK 0), .ref (aK 0), .ref fl, .int 0, .int 0, .int 0, .int 0, .int 0, .int 0, .int 0, .null])), (ml, .inr (4, [.int 0, .ref e0, .int 0])), (ou, .inl (cL, 1, .inr (.inl of_3)))] H := hP
  have hD : va_D A [(xm, .inr (20, [.int 0, .int 0, .ref kn, .int 0, .int 0, .int 0, .ref ml, .ref cl, .ref rg, .ref tR, .ref (aK 0), .ref (aK 0), .ref fl, .int 0, .int 0, .int 0, .int 0, .int 0, .int 0, .int 0, .null])), (ml, .inr (4, [.int 0, .ref e0, .int 0])), (ou, .inl (cL, 1, .inr (.inl of_3)))] := hD
  refine W.widen (k := 202) (n := 60012) (Nat.le_of_ble_eq_true rfl) (Nat.le_of_ble_eq_true rfl) ?_
  rcases hw_5 with ⟨hr0, hPP⟩ | ⟨hr0, hPP⟩
  · obtain rfl : r_4 = 1 := hr0
    refine lv_istore (lv' := [(6, .int 1), (0, .ref b), (1, .ref ya), (2, .ref xm), (3, .ref ou), (4, .ref od), (5, .int 0)]) hx hb dL_law_1697 hl (by decide) rfl (fun ls hl => ?_)
    refine lv_aload_n hx hb dL_law_1699 rfl (lv_at hl 3 rfl) ?_
    refine lv_aload_n hx hb dL_law_1700 rfl (lv_at hl 1 rfl) ?_
    refine lv_iload hx hb dL_law_1701 (lv_at hl 6 rfl) ?_
    refine lv_iconst (v := 1) hx hb dL_law_1703 (by decide) ?_
    refine lv_iadd hx hb dL_law_1704 ?_
    refine va_sld hx hb hX hbl hbA hS sx1 dL_law_1705 ?_
    refine lv_topi (fun x_6 ex_6 => ?_)
    obtain rfl : s1 = x_6 := (ex_6.trans hs1.symm).symm
    refine lv_i2c hx hb dL_law_1706 rfl ?_
    refine lv_topi (fun x_7 ex_7 => ?_)
    obtain rfl : k1 = x_7 := (ex_7.trans hk1.symm).symm
    have hPc := hP.sub (ws' := [(xm, .inr (20, [.int 0, .int 0, .ref kn, .int 0, .int 0, .int 0, .ref ml, .ref cl, .ref rg, .ref tR, .ref (aK 0), .ref (aK 0), .ref fl, .int 0, .int 0, .int 0, .int 0, .int 0, .int 0, .int 0, .null])), (ml, .inr (4, [.int 0, .ref e0, .int 0]))]) [0, 1] rfl
    have hDc := hD.sub (ws' := [(xm, .inr (20, [.int 0, .int 0, .ref kn, .int 0, .int 0, .int 0, .ref ml, .ref cl, .ref rg, .ref tR, .ref (aK 0), .ref (aK 0), .ref fl, .int 0, .int 0, .int 0, .int 0, .int 0, .int 0, .int 0, .null])), (ml, .inr (4, [.int 0, .ref e0, .int 0]))]) [0, 1] (by decide) rfl
    have hKc := hK.sub (tys' := []) [] rfl
    have hFc := va_free (wc := [(xm, .inr (20, [.int 0, .int 0, .ref kn, .int 0, .int 0, .int 0, .ref ml, .ref cl, .ref rg, .ref tR, .ref (aK 0), .ref (aK 0), .ref fl, .int 0, .int 0, .int 0, .int 0, .int 0, .int 0, .int 0, .null])), (ml, .inr (4, [.int 0, .ref e0, .int 0]))]) hD hS hA [0, 1] rfl
    refine va_calli (va_runV (As := [.int k1]) (rest := []) ⟨hx, hb, hml, hown, hts⟩ (c_X15_record l dC dI xm ml cl fl kn rg tR e0 aK aV k1 H.size) (cwV 1 hts gL_law_X15_record rfl rfl rfl (by decide +kernel) ⟨Nat.le_of_ble_eq_true rfl, Nat.le_of_ble_eq_true rfl⟩) (pcV hPc hDc hKc hN (ci := 20) (q0 := 0) rfl rfl) rfl rfl hl.1 rfl (lv_room (Nat.le_of_ble_eq_true rfl)) dL_law_1707 ⟨Nat.le_of_ble_eq_true rfl, Nat.le_of_ble_eq_true rfl⟩) hS (fun q _ h => hFc q h) hFc (fun r_9 u t H1 locs ht hvm hw_10 hB hz1 hk1 hS => ?_)
    obtain fs_8 := u
    obtain ⟨hP1, hK1, hD1⟩ := hB
    rw [ht] at hP1
    try dsimp only at hw_10
    obtain ⟨hP, hD⟩ := va_join (wr := [(ou, .inl (cL, 1, .inr (.inl of_3)))]) (w1 := [(xm, .inr (20, fs_8))]) hP hD [0, 1] [2] rfl rfl (by decide) (by decide) hk1 hFc hP1 hD1
    generalize H1 = H at hP hS ⊢
    have hP : va_P (dC, dI) vwCl [(ou, .inl (cL, 1, .inr (.inl of_3))), (xm, .inr (20, fs_8))] H := hP
    have hD : va_D A [(ou, .inl (cL, 1, .inr (.inl of_3))), (xm, .inr (20, fs_8))] := hD
    have ht9 := hw_10.elim (fun h => h.2) (fun h => absurd h.1 hPP)
    refine lv_istore (lv' := [(7, .int r_9), (6, .int 1), (0, .ref b), (1, .ref ya), (2, .ref xm), (3, .ref ou), (4, .ref od), (5, .int 0)]) hx hb dL_law_1710 hl (by decide) rfl (fun ls hl => ?_)
    refine lv_aload_n hx hb dL_law_1712 rfl (lv_at hl 4 rfl) ?_
    have hPc := hP.sub (ws' := [(xm, .inr (20, fs_8))]) [1] rfl
    have hDc := hD.sub (ws' := [(xm, .inr (20, fs_8))]) [1] (by decide) rfl
    have hKc := hK.sub (tys' := []) [] rfl
    have hFc := va_free (wc := [(xm, .inr (20, fs_8))]) hD hS hA [1] rfl
    refine va_calli (va_runV (As := []) (rest := []) ⟨hx, hb, hml, hown, hts⟩ (c_X15_thrown l dC dI xm fs_8 1 ht9 H.size) (cwV 0 hts gL_law_X15_thrown rfl rfl rfl (by decide +kernel) ⟨Nat.le_of_ble_eq_true rfl, Nat.le_of_ble_eq_true rfl⟩) (pcV hPc hDc hKc hN (ci := 20) (q0 := 0) rfl rfl) rfl rfl hl.1 rfl (lv_room (Nat.le_of_ble_eq_true rfl)) dL_law_1713 ⟨Nat.le_of_ble_eq_true rfl, Nat.le_of_ble_eq_true rfl⟩) hS (fun q _ h => hFc q h) hFc (fun r_11 u t H1 locs ht hvm hw_12 hB hz1 hk1 hS => ?_)
    obtain ⟨hP1, hK1, hD1⟩ := hB
    rw [ht] at hP1
    try dsimp only at hw_12
    obtain ⟨hP, hD⟩ := va_join (wr := [(ou, .inl (cL, 1, .inr (.inl of_3)))]) (w1 := []) hP hD [1] [0] rfl rfl (by decide) (by decide) hk1 hFc hP1 hD1
    generalize H1 = H at hP hS ⊢
    have hP : va_P (dC, dI) vwCl [(ou, .inl (cL, 1, .inr (.inl of_3)))] H := hP
    have hD : va_D A [(ou, .inl (cL, 1, .inr (.inl of_3)))] := hD
    obtain rfl : r_11 = 1 := hw_12
    refine lv_iload hx hb dL_law_1716 (lv_at hl 1 rfl) ?_
    refine lv_icmp_eq (tgt := 1723) hx hb dL_law_1718 (by decide) (fun c1718_13 => ?_) (fun c1718_13 => ?_)
    · refine lv_iload hx hb dL_law_1723 (lv_at hl 1 rfl) ?_
      refine lv_if_ne (tgt := 1740) hx hb dL_law_1725 (by decide) (fun c1725_14 => ?_) (fun c1725_14 => ?_)
      · refine lv_goto (tgt := 2778) hx hb dL_law_1740 (by decide) ?_
        refine W.widen (k := 600006) (n := 7302039) (Nat.le_of_ble_eq_true rfl) (Nat.le_of_ble_eq_true rfl) ?_
        exact law_end hx hb hr hml hX hbl hlocks hbA hAo hS (lv_sub hl [2, 7] rfl)
      · exact absurd c1725_14 (by decide)
    · exact (c1718_13 (by decide)).elim
  · obtain rfl : r_4 = 2 := hr0
    refine lv_istore (lv' := [(6, .int 2), (0, .ref b), (1, .ref ya), (2, .ref xm), (3, .ref ou), (4, .ref od), (5, .int 0)]) hx hb dL_law_1697 hl (by decide) rfl (fun ls hl => ?_)
    refine lv_aload_n hx hb dL_law_1699 rfl (lv_at hl 3 rfl) ?_
    refine lv_aload_n hx hb dL_law_1700 rfl (lv_at hl 1 rfl) ?_
    refine lv_iload hx hb dL_law_1701 (lv_at hl 6 rfl) ?_
    refine lv_iconst (v := 1) hx hb dL_law_1703 (by decide) ?_
    refine lv_iadd hx hb dL_law_1704 ?_
    refine va_sld hx hb hX hbl hbA hS sx1 dL_law_1705 ?_
    refine lv_topi (fun x_15 ex_15 => ?_)
    obtain rfl : s1 = x_15 := (ex_15.trans hs1.symm).symm
    refine lv_i2c hx hb dL_law_1706 rfl ?_
    refine lv_topi (fun x_16 ex_16 => ?_)
    obtain rfl : k1 = x_16 := (ex_16.trans hk1.symm).symm
    have hPc := hP.sub (ws' := [(xm, .inr (20, [.int 0, .int 0, .ref kn, .int 0, .int 0, .int 0, .ref ml, .ref cl, .ref rg, .ref tR, .ref (aK 0), .ref (aK 0), .ref fl, .int 0, .int 0, .int 0, .int 0, .int 0, .int 0, .int 0, .null])), (ml, .inr (4, [.int 0, .ref e0, .int 0]))]) [0, 1] rfl
    have hDc := hD.sub (ws' := [(xm, .inr (20, [.int 0, .int 0, .ref kn, .int 0, .int 0, .int 0, .ref ml, .ref cl, .ref rg, .ref tR, .ref (aK 0), .ref (aK 0), .ref fl, .int 0, .int 0, .int 0, .int 0, .int 0, .int 0, .int 0, .null])), (ml, .inr (4, [.int 0, .ref e0, .int 0]))]) [0, 1] (by decide) rfl
    have hKc := hK.sub (tys' := []) [] rfl
    have hFc := va_free (wc := [(xm, .inr (20, [.int 0, .int 0, .ref kn, .int 0, .int 0, .int 0, .ref ml, .ref cl, .ref rg, .ref tR, .ref (aK 0), .ref (aK 0), .ref fl, .int 0, .int 0, .int 0, .int 0, .int 0, .int 0, .int 0, .null])), (ml, .inr (4, [.int 0, .ref e0, .int 0]))]) hD hS hA [0, 1] rfl
    refine va_calli (va_runV (As := [.int k1]) (rest := []) ⟨hx, hb, hml, hown, hts⟩ (c_X15_record l dC dI xm ml cl fl kn rg tR e0 aK aV k1 H.size) (cwV 1 hts gL_law_X15_record rfl rfl rfl (by decide +kernel) ⟨Nat.le_of_ble_eq_true rfl, Nat.le_of_ble_eq_true rfl⟩) (pcV hPc hDc hKc hN (ci := 20) (q0 := 0) rfl rfl) rfl rfl hl.1 rfl (lv_room (Nat.le_of_ble_eq_true rfl)) dL_law_1707 ⟨Nat.le_of_ble_eq_true rfl, Nat.le_of_ble_eq_true rfl⟩) hS (fun q _ h => hFc q h) hFc (fun r_18 u t H1 locs ht hvm hw_19 hB hz1 hk1 hS => ?_)
    obtain fs_17 := u
    obtain ⟨hP1, hK1, hD1⟩ := hB
    rw [ht] at hP1
    try dsimp only at hw_19
    obtain ⟨hP, hD⟩ := va_join (wr := [(ou, .inl (cL, 1, .inr (.inl of_3)))]) (w1 := [(xm, .inr (20, fs_17))]) hP hD [0, 1] [2] rfl rfl (by decide) (by decide) hk1 hFc hP1 hD1
    generalize H1 = H at hP hS ⊢
    have hP : va_P (dC, dI) vwCl [(ou, .inl (cL, 1, .inr (.inl of_3))), (xm, .inr (20, fs_17))] H := hP
    have hD : va_D A [(ou, .inl (cL, 1, .inr (.inl of_3))), (xm, .inr (20, fs_17))] := hD
    have ht9 := hw_19.elim (fun h => absurd hPP h.1) (fun h => h.2)
    refine lv_istore (lv' := [(7, .int r_18), (6, .int 2), (0, .ref b), (1, .ref ya), (2, .ref xm), (3, .ref ou), (4, .ref od), (5, .int 0)]) hx hb dL_law_1710 hl (by decide) rfl (fun ls hl => ?_)
    refine lv_aload_n hx hb dL_law_1712 rfl (lv_at hl 4 rfl) ?_
    have hPc := hP.sub (ws' := [(xm, .inr (20, fs_17))]) [1] rfl
    have hDc := hD.sub (ws' := [(xm, .inr (20, fs_17))]) [1] (by decide) rfl
    have hKc := hK.sub (tys' := []) [] rfl
    have hFc := va_free (wc := [(xm, .inr (20, fs_17))]) hD hS hA [1] rfl
    refine va_calli (va_runV (As := []) (rest := []) ⟨hx, hb, hml, hown, hts⟩ (c_X15_thrown l dC dI xm fs_17 2 ht9 H.size) (cwV 0 hts gL_law_X15_thrown rfl rfl rfl (by decide +kernel) ⟨Nat.le_of_ble_eq_true rfl, Nat.le_of_ble_eq_true rfl⟩) (pcV hPc hDc hKc hN (ci := 20) (q0 := 0) rfl rfl) rfl rfl hl.1 rfl (lv_room (Nat.le_of_ble_eq_true rfl)) dL_law_1713 ⟨Nat.le_of_ble_eq_true rfl, Nat.le_of_ble_eq_true rfl⟩) hS (fun q _ h => hFc q h) hFc (fun r_20 u t H1 locs ht hvm hw_21 hB hz1 hk1 hS => ?_)
    obtain ⟨hP1, hK1, hD1⟩ := hB
    rw [ht] at hP1
    try dsimp only at hw_21
    obtain ⟨hP, hD⟩ := va_join (wr := [(ou, .inl (cL, 1, .inr (.inl of_3)))]) (w1 := []) hP hD [1] [0] rfl rfl (by decide) (by decide) hk1 hFc hP1 hD1
    generalize H1 = H at hP hS ⊢
    have hP : va_P (dC, dI) vwCl [(ou, .inl (cL, 1, .inr (.inl of_3)))] H := hP
    have hD : va_D A [(ou, .inl (cL, 1, .inr (.inl of_3)))] := hD
    obtain rfl : r_20 = 2 := hw_21
    refine lv_iload hx hb dL_law_1716 (lv_at hl 1 rfl) ?_
    refine lv_icmp_eq (tgt := 1723) hx hb dL_law_1718 (by decide) (fun c1718_22 => ?_) (fun c1718_22 => ?_)
    · refine lv_iload hx hb dL_law_1723 (lv_at hl 1 rfl) ?_
      refine lv_if_ne (tgt := 1740) hx hb dL_law_1725 (by decide) (fun c1725_23 => ?_) (fun c1725_23 => ?_)
      · refine lv_goto (tgt := 2778) hx hb dL_law_1740 (by decide) ?_
        refine W.widen (k := 600006) (n := 7302039) (Nat.le_of_ble_eq_true rfl) (Nat.le_of_ble_eq_true rfl) ?_
        exact law_end hx hb hr hml hX hbl hlocks hbA hAo hS (lv_sub hl [2, 7] rfl)
      · exact absurd c1725_23 (by decide)
    · exact (c1718_22 (by decide)).elim

set_option maxHeartbeats 8000000 in
set_option maxRecDepth 100000 in
/-- the law: law_21_tell -/
theorem law_21_tell {p : Program} {e : Env} {s : State} {m : MethodId} {below : List Frame} {meth : Method} {c : Code} {l : Launch} {b : Nat} {xs : Nat → Int32} (hx : p.tables.exec = Jvm.exec) (hb : c.code = cL_law) (hr : meth.sig.returnType = ret) (hml : c.maxLocals = 9) (hfl : l.stackTraces = false) (hown : s.vm.findClass RL = some m.cls) (hts : ∀ w ∈ wsL_law, w.before #[Value.ref b] s = true) (hX : va_X b 7 xs s s.heap) (hbl : b < s.heap.size) (hlocks : meth.locks = false) {A : Nat → Prop} (hbA : ¬ A b) (hAo : ∀ q, A q → s.heap.size ≤ q) (hA : ∀ q : Nat, s.heap.size ≤ q → A q) (dC : Nat → ClassId) (dI : Nat → Nat → Nat) (hN : nwA s) (e0 : Nat) (aK aV : Nat → Nat) (hZ : zX A s s.heap ∧ zM e0 aK aV A s s.heap) (ya ms ju rj tj ro rn tn rh th ca sa da xa wb z1 z2 jt z3 br z4 z5 z6 lk z7 z8 li bm l2 z9 bo h2 mm l1 z10 oo h1 ct cr cu cg cp co tg ts tr tk te fw fo fu xm ml cl fl rg tR ou od kn : Nat) (cI cM cS cL cD cB : ClassId) {H : Heap} {locs : List Loc} (hP : va_P (dC, dI) vwCl [(ya, .inr (16, [.ref ms, .int 0, .ref ju, .ref li, .ref ct, .ref tg, .ref fw])), (ou, .inl (cL, 1, .inr (.inl (fun _ => 0)))), (xm, .inr (20, [.int 0, .int 0, .ref kn, .int 0, .int 0, .int 0, .ref ml, .ref cl, .ref rg, .ref tR, .ref (aK 0), .ref (aK 0), .ref fl, .int 0, .int 0, .int 0, .int 0, .int 0, .int 0, .int 0, .null])), (ml, .inr (4, [.int 0, .ref e0, .int 0]))] H) (hD : va_D A [(ya, .inr (16, [.ref ms, .int 0, .ref ju, .ref li, .ref ct, .ref tg, .ref fw])), (ou, .inl (cL, 1, .inr (.inl (fun _ => 0)))), (xm, .inr (20, [.int 0, .int 0, .ref kn, .int 0, .int 0, .int 0, .ref ml, .ref cl, .ref rg, .ref tR, .ref (aK 0), .ref (aK 0), .ref fl, .int 0, .int 0, .int 0, .int 0, .int 0, .int 0, .int 0, .null])), (ml, .inr (4, [.int 0, .ref e0, .int 0]))]) (hK : va_K (dC, dI) vwCl [(cL, .long)] s) (hS : va_S A s.heap H locs) {ls : Array Slot} (hl : lv_has ls 9 [(0, .ref b), (1, .ref ya), (2, .ref xm), (3, .ref ou), (4, .ref od), (5, .int 0)]) : W p l e room_1 s m #[Value.ref b] below meth c H locs 200 60000 (lw_Z below #[Value.ref b] s) (F0 m 1743 ls []) := by
  obtain ⟨s1, hs1⟩ : ∃ z, z = xs ((0 : Int32) + 1).toNatClampNeg := ⟨_, rfl⟩
  obtain ⟨s2, hs2⟩ : ∃ z, z = xs ((0 : Int32) + 2).toNatClampNeg := ⟨_, rfl⟩
  obtain ⟨s3, hs3⟩ : ∃ z, z = xs ((0 : Int32) + 3).toNatClampNeg := ⟨_, rfl⟩
  obtain ⟨s4, hs4⟩ : ∃ z, z = xs ((0 : Int32) + 4).toNatClampNeg := ⟨_, rfl⟩
  obtain ⟨s5, hs5⟩ : ∃ z, z = xs ((0 : Int32) + 5).toNatClampNeg := ⟨_, rfl⟩
  obtain ⟨s6, hs6⟩ : ∃ z, z = xs ((0 : Int32) + 6).toNatClampNeg := ⟨_, rfl⟩
  obtain ⟨k1, hk1⟩ : ∃ z, z = (s1.toUInt32 % 65536).toInt32 := ⟨_, rfl⟩
  obtain ⟨k2, hk2⟩ : ∃ z, z = (s2.toUInt32 % 65536).toInt32 := ⟨_, rfl⟩
  obtain ⟨k3, hk3⟩ : ∃ z, z = (s3.toUInt32 % 65536).toInt32 := ⟨_, rfl⟩
  obtain ⟨k4, hk4⟩ : ∃ z, z = (s4.toUInt32 % 65536).toInt32 := ⟨_, rfl⟩
  obtain ⟨k5, hk5⟩ : ∃ z, z = (s5.toUInt32 % 65536).toInt32 := ⟨_, rfl⟩
  obtain ⟨k6, hk6⟩ : ∃ z, z = (s6.toUInt32 % 65536).toInt32 := ⟨_, rfl⟩
  refine lv_aload_n hx hb dL_law_1743 rfl (lv_at hl 1 rfl) ?_
  refine lv_aload_n hx hb dL_law_1744 rfl (lv_at hl 0 rfl) ?_
  refine lv_iload hx hb dL_law_1745 (lv_at hl 5 rfl) ?_
  refine lv_iconst (v := 1) hx hb dL_law_1747 (by decide) ?_
  refine lv_iadd hx hb dL_law_1748 ?_
  refine va_sld hx hb hX hbl hbA hS sx1 dL_law_1749 ?_
  refine lv_topi (fun x_1 ex_1 => ?_)
  obtain rfl : s1 = x_1 := (ex_1.trans hs1.symm).symm
  refine lv_aload_n hx hb dL_law_1750 rfl (lv_at hl 0 rfl) ?_
  refine lv_iload hx hb dL_law_1751 (lv_at hl 5 rfl) ?_
  refine lv_iconst (v := 2) hx hb dL_law_1753 (by decide) ?_
  refine lv_iadd hx hb dL_law_1754 ?_
  refine va_sld hx hb hX hbl hbA hS sx2 dL_law_1755 ?_
  refine lv_topi (fun x_2 ex_2 => ?_)
  obtain rfl : s2 = x_2 := (ex_2.trans hs2.symm).symm
  refine lv_aload_n hx hb dL_law_1756 rfl (lv_at hl 0 rfl) ?_
  refine lv_iload hx hb dL_law_1757 (lv_at hl 5 rfl) ?_
  refine lv_iconst (v := 3) hx hb dL_law_1759 (by decide) ?_
  refine lv_iadd hx hb dL_law_1760 ?_
  refine va_sld hx hb hX hbl hbA hS sx3 dL_law_1761 ?_
  refine lv_topi (fun x_3 ex_3 => ?_)
  obtain rfl : s3 = x_3 := (ex_3.trans hs3.symm).symm
  refine lv_i2c hx hb dL_law_1762 rfl ?_
  refine lv_topi (fun x_4 ex_4 => ?_)
  obtain rfl : k3 = x_4 := (ex_4.trans hk3.symm).symm
  refine lv_aload_n hx hb dL_law_1763 rfl (lv_at hl 3 rfl) ?_
  have hPc := hP.sub (ws' := [(ya, .inr (16, [.ref ms, .int 0, .ref ju, .ref li, .ref ct, .ref tg, .ref fw])), (ou, .inl (cL, 1, .inr (.inl (fun _ => 0))))]) [0, 1] rfl
  have hDc := hD.sub (ws' := [(ya, .inr (16, [.ref ms, .int 0, .ref ju, .ref li, .ref ct, .ref tg, .ref fw])), (ou, .inl (cL, 1, .inr (.inl (fun _ => 0))))]) [0, 1] (by decide) rfl
  have hKc := hK.sub (tys' := [(cL, .long)]) [0] rfl
  have hFc := va_free (wc := [(ya, .inr (16, [.ref ms, .int 0, .ref ju, .ref li, .ref ct, .ref tg, .ref fw])), (ou, .inl (cL, 1, .inr (.inl (fun _ => 0))))]) hD hS hA [0, 1] rfl
  refine vx_calli (vx_runSX (As := [.ref ya, .int s1, .int s2, .int k3, .ref ou]) (rest := []) ⟨hx, hb, hml, hown, hts⟩ (c_L_tell l hfl dC dI ya ms ju li ct tg fw s1 s2 k3 cL ou (fun _ => 0) H.size) (vx_cwSW 5 hts gL_law_L_tell rfl rfl rfl (by decide +kernel) ⟨Nat.le_of_ble_eq_true rfl, Nat.le_of_ble_eq_true rfl⟩) (pcSz (zX_ok) hPc hDc hKc hN hZ.1 hS hFc) rfl rfl hl.1 rfl (lv_room (Nat.le_of_ble_eq_true rfl)) dL_law_1764 ⟨Nat.le_of_ble_eq_true rfl, Nat.le_of_ble_eq_true rfl⟩) hS (fun q _ h => hFc q h) hFc (fun q _ h => hFc q h) (fun E9 ce9 q9 u9 t9 H9 locs9 ht9 hvm9 hp9 hE9 hz9 hk9 hS9 hc9 hv9 hcl9 => hE9.elim) (fun r_6 u t H1 locs ht hvm hw_7 hB hz1 hk1 hS => ?_)
  obtain of_5 := u
  obtain ⟨hP1, hK1, hD1⟩ := hB
  rw [ht] at hP1
  try dsimp only at hw_7
  obtain ⟨hP, hD⟩ := va_join (wr := [(xm, .inr (20, [.int 0, .int 0, .ref kn, .int 0, .int 0, .int 0, .ref ml, .ref cl, .ref rg, .ref tR, .ref (aK 0), .ref (aK 0), .ref fl, .int 0, .int 0, .int 0, .int 0, .int 0, .int 0, .int 0, .null])), (ml, .inr (4, [.int 0, .ref e0, .int 0]))]) (w1 := [(ou, .inl (cL, 1, .inr (.inl of_5)))]) hP hD [0, 1] [2, 3] rfl rfl (by decide) (by decide) hk1 hFc hP1 hD1
  generalize H1 = H at hP hS ⊢
  have hP : va_P (dC, dI) vwCl [(xm, .inr (20, [.int 0, .int 0, .ref kn, .int 0, .int 0, .int 0, .ref ml, .ref cl, .ref rg, .ref tR, .ref (aK 0), .ref (aK 0), .ref fl, .int 0, .int 0, .int 0, .int 0, .int 0, .int 0, .int 0, .null])), (ml, .inr (4, [.int 0, .ref e0, .int 0])), (ou, .inl (cL, 1, .inr (.inl of_5)))] H := hP
  have hD : va_D A [(xm, .inr (20, [.int 0, .int 0, .ref kn, .int 0, .int 0, .int 0, .ref ml, .ref cl, .ref rg, .ref tR, .ref (aK 0), .ref (aK 0), .ref fl, .int 0, .int 0, .int 0, .int 0, .int 0, .int 0, .int 0, .null])), (ml, .inr (4, [.int 0, .ref e0, .int 0])), (ou, .inl (cL, 1, .inr (.inl of_5)))] := hD
  refine W.widen (k := 201) (n := 60006) (Nat.le_of_ble_eq_true rfl) (Nat.le_of_ble_eq_true rfl) ?_
  obtain rfl : r_6 = 1 := hw_7
  refine lv_istore (lv' := [(6, .int 1), (0, .ref b), (1, .ref ya), (2, .ref xm), (3, .ref ou), (4, .ref od), (5, .int 0)]) hx hb dL_law_1767 hl (by decide) rfl (fun ls hl => ?_)
  refine lv_aload_n hx hb dL_law_1769 rfl (lv_at hl 3 rfl) ?_
  refine lv_aload_n hx hb dL_law_1770 rfl (lv_at hl 1 rfl) ?_
  refine lv_iload hx hb dL_law_1771 (lv_at hl 6 rfl) ?_
  refine lv_iconst (v := 1) hx hb dL_law_1773 (by decide) ?_
  refine lv_iadd hx hb dL_law_1774 ?_
  refine va_sld hx hb hX hbl hbA hS sx1 dL_law_1775 ?_
  refine lv_topi (fun x_8 ex_8 => ?_)
  obtain rfl : s1 = x_8 := (ex_8.trans hs1.symm).symm
  refine lv_aload_n hx hb dL_law_1776 rfl (lv_at hl 1 rfl) ?_
  refine lv_iload hx hb dL_law_1777 (lv_at hl 6 rfl) ?_
  refine lv_iconst (v := 2) hx hb dL_law_1779 (by decide) ?_
  refine lv_iadd hx hb dL_law_1780 ?_
  refine va_sld hx hb hX hbl hbA hS sx2 dL_law_1781 ?_
  refine lv_topi (fun x_9 ex_9 => ?_)
  obtain rfl : s2 = x_9 := (ex_9.trans hs2.symm).symm
  refine lv_aload_n hx hb dL_law_1782 rfl (lv_at hl 1 rfl) ?_
  refine lv_iload hx hb dL_law_1783 (lv_at hl 6 rfl) ?_
  refine lv_iconst (v := 3) hx hb dL_law_1785 (by decide) ?_
  refine lv_iadd hx hb dL_law_1786 ?_
  refine va_sld hx hb hX hbl hbA hS sx3 dL_law_1787 ?_
  refine lv_topi (fun x_10 ex_10 => ?_)
  obtain rfl : s3 = x_10 := (ex_10.trans hs3.symm).symm
  refine lv_i2c hx hb dL_law_1788 rfl ?_
  refine lv_topi (fun x_11 ex_11 => ?_)
  obtain rfl : k3 = x_11 := (ex_11.trans hk3.symm).symm
  have hPc := hP.sub (ws' := [(xm, .inr (20, [.int 0, .int 0, .ref kn, .int 0, .int 0, .int 0, .ref ml, .ref cl, .ref rg, .ref tR, .ref (aK 0), .ref (aK 0), .ref fl, .int 0, .int 0, .int 0, .int 0, .int 0, .int 0, .int 0, .null])), (ml, .inr (4, [.int 0, .ref e0, .int 0]))]) [0, 1] rfl
  have hDc := hD.sub (ws' := [(xm, .inr (20, [.int 0, .int 0, .ref kn, .int 0, .int 0, .int 0, .ref ml, .ref cl, .ref rg, .ref tR, .ref (aK 0), .ref (aK 0), .ref fl, .int 0, .int 0, .int 0, .int 0, .int 0, .int 0, .int 0, .null])), (ml, .inr (4, [.int 0, .ref e0, .int 0]))]) [0, 1] (by decide) rfl
  have hKc := hK.sub (tys' := []) [] rfl
  have hFc := va_free (wc := [(xm, .inr (20, [.int 0, .int 0, .ref kn, .int 0, .int 0, .int 0, .ref ml, .ref cl, .ref rg, .ref tR, .ref (aK 0), .ref (aK 0), .ref fl, .int 0, .int 0, .int 0, .int 0, .int 0, .int 0, .int 0, .null])), (ml, .inr (4, [.int 0, .ref e0, .int 0]))]) hD hS hA [0, 1] rfl
  refine va_calli (va_runV (As := [.int s1, .int s2, .int k3]) (rest := []) ⟨hx, hb, hml, hown, hts⟩ (c_X15_tell l dC dI xm ml cl fl kn rg tR e0 aK aV s1 s2 k3 H.size) (cwV 3 hts gL_law_X15_tell rfl rfl rfl (by decide +kernel) ⟨Nat.le_of_ble_eq_true rfl, Nat.le_of_ble_eq_true rfl⟩) (pcV hPc hDc hKc hN (ci := 20) (q0 := 0) rfl rfl) rfl rfl hl.1 rfl (lv_room (Nat.le_of_ble_eq_true rfl)) dL_law_1789 ⟨Nat.le_of_ble_eq_true rfl, Nat.le_of_ble_eq_true rfl⟩) hS (fun q _ h => hFc q h) hFc (fun r_13 u t H1 locs ht hvm hw_14 hB hz1 hk1 hS => ?_)
  obtain fs_12 := u
  obtain ⟨hP1, hK1, hD1⟩ := hB
  rw [ht] at hP1
  try dsimp only at hw_14
  obtain ⟨hP, hD⟩ := va_join (wr := [(ou, .inl (cL, 1, .inr (.inl of_5)))]) (w1 := [(xm, .inr (20, fs_12))]) hP hD [0, 1] [2] rfl rfl (by decide) (by decide) hk1 hFc hP1 hD1
  generalize H1 = H at hP hS ⊢
  have hP : va_P (dC, dI) vwCl [(ou, .inl (cL, 1, .inr (.inl of_5))), (xm, .inr (20, fs_12))] H := hP
  have hD : va_D A [(ou, .inl (cL, 1, .inr (.inl of_5))), (xm, .inr (20, fs_12))] := hD
  refine lv_istore (lv' := [(7, .int r_13), (6, .int 1), (0, .ref b), (1, .ref ya), (2, .ref xm), (3, .ref ou), (4, .ref od), (5, .int 0)]) hx hb dL_law_1792 hl (by decide) rfl (fun ls hl => ?_)
  refine lv_aload_n hx hb dL_law_1794 rfl (lv_at hl 4 rfl) ?_
  have hPc := hP.sub (ws' := [(xm, .inr (20, fs_12))]) [1] rfl
  have hDc := hD.sub (ws' := [(xm, .inr (20, fs_12))]) [1] (by decide) rfl
  have hKc := hK.sub (tys' := []) [] rfl
  have hFc := va_free (wc := [(xm, .inr (20, fs_12))]) hD hS hA [1] rfl
  refine va_calli (va_runV (As := []) (rest := []) ⟨hx, hb, hml, hown, hts⟩ (c_X15_thrown l dC dI xm fs_12 1 hw_14 H.size) (cwV 0 hts gL_law_X15_thrown rfl rfl rfl (by decide +kernel) ⟨Nat.le_of_ble_eq_true rfl, Nat.le_of_ble_eq_true rfl⟩) (pcV hPc hDc hKc hN (ci := 20) (q0 := 0) rfl rfl) rfl rfl hl.1 rfl (lv_room (Nat.le_of_ble_eq_true rfl)) dL_law_1795 ⟨Nat.le_of_ble_eq_true rfl, Nat.le_of_ble_eq_true rfl⟩) hS (fun q _ h => hFc q h) hFc (fun r_15 u t H1 locs ht hvm hw_16 hB hz1 hk1 hS => ?_)
  obtain ⟨hP1, hK1, hD1⟩ := hB
  rw [ht] at hP1
  try dsimp only at hw_16
  obtain ⟨hP, hD⟩ := va_join (wr := [(ou, .inl (cL, 1, .inr (.inl of_5)))]) (w1 := []) hP hD [1] [0] rfl rfl (by decide) (by decide) hk1 hFc hP1 hD1
  generalize H1 = H at hP hS ⊢
  have hP : va_P (dC, dI) vwCl [(ou, .inl (cL, 1, .inr (.inl of_5)))] H := hP
  have hD : va_D A [(ou, .inl (cL, 1, .inr (.inl of_5)))] := hD
  obtain rfl : r_15 = 1 := hw_16
  refine lv_iload hx hb dL_law_1798 (lv_at hl 1 rfl) ?_
  refine lv_icmp_eq (tgt := 1805) hx hb dL_law_1800 (by decide) (fun c1800_17 => ?_) (fun c1800_17 => ?_)
  · refine lv_iload hx hb dL_law_1805 (lv_at hl 1 rfl) ?_
    refine lv_if_ne (tgt := 1822) hx hb dL_law_1807 (by decide) (fun c1807_18 => ?_) (fun c1807_18 => ?_)
    · refine lv_goto (tgt := 2778) hx hb dL_law_1822 (by decide) ?_
      refine W.widen (k := 600006) (n := 7302039) (Nat.le_of_ble_eq_true rfl) (Nat.le_of_ble_eq_true rfl) ?_
      exact law_end hx hb hr hml hX hbl hlocks hbA hAo hS (lv_sub hl [2, 7] rfl)
    · exact absurd c1807_18 (by decide)
  · exact (c1800_17 (by decide)).elim

set_option maxHeartbeats 8000000 in
set_option maxRecDepth 100000 in
/-- the law: law_22_isDisputed -/
theorem law_22_isDisputed {p : Program} {e : Env} {s : State} {m : MethodId} {below : List Frame} {meth : Method} {c : Code} {l : Launch} {b : Nat} {xs : Nat → Int32} (hx : p.tables.exec = Jvm.exec) (hb : c.code = cL_law) (hr : meth.sig.returnType = ret) (hml : c.maxLocals = 9) (hfl : l.stackTraces = false) (hown : s.vm.findClass RL = some m.cls) (hts : ∀ w ∈ wsL_law, w.before #[Value.ref b] s = true) (hX : va_X b 7 xs s s.heap) (hbl : b < s.heap.size) (hlocks : meth.locks = false) {A : Nat → Prop} (hbA : ¬ A b) (hAo : ∀ q, A q → s.heap.size ≤ q) (hA : ∀ q : Nat, s.heap.size ≤ q → A q) (dC : Nat → ClassId) (dI : Nat → Nat → Nat) (hN : nwA s) (e0 : Nat) (aK aV : Nat → Nat) (hZ : zX A s s.heap ∧ zM e0 aK aV A s s.heap) (ya ms ju rj tj ro rn tn rh th ca sa da xa wb z1 z2 jt z3 br z4 z5 z6 lk z7 z8 li bm l2 z9 bo h2 mm l1 z10 oo h1 ct cr cu cg cp co tg ts tr tk te fw fo fu xm ml cl fl rg tR ou od kn : Nat) (cI cM cS cL cD cB : ClassId) {H : Heap} {locs : List Loc} (hP : va_P (dC, dI) vwCl [(ya, .inr (16, [.ref ms, .int 0, .ref ju, .ref li, .ref ct, .ref tg, .ref fw])), (ou, .inl (cL, 1, .inr (.inl (fun _ => 0)))), (xm, .inr (20, [.int 0, .int 0, .ref kn, .int 0, .int 0, .int 0, .ref ml, .ref cl, .ref rg, .ref tR, .ref (aK 0), .ref (aK 0), .ref fl, .int 0, .int 0, .int 0, .int 0, .int 0, .int 0, .int 0, .null])), (ml, .inr (4, [.int 0, .ref e0, .int 0]))] H) (hD : va_D A [(ya, .inr (16, [.ref ms, .int 0, .ref ju, .ref li, .ref ct, .ref tg, .ref fw])), (ou, .inl (cL, 1, .inr (.inl (fun _ => 0)))), (xm, .inr (20, [.int 0, .int 0, .ref kn, .int 0, .int 0, .int 0, .ref ml, .ref cl, .ref rg, .ref tR, .ref (aK 0), .ref (aK 0), .ref fl, .int 0, .int 0, .int 0, .int 0, .int 0, .int 0, .int 0, .null])), (ml, .inr (4, [.int 0, .ref e0, .int 0]))]) (hK : va_K (dC, dI) vwCl [(cL, .long)] s) (hS : va_S A s.heap H locs) {ls : Array Slot} (hl : lv_has ls 9 [(0, .ref b), (1, .ref ya), (2, .ref xm), (3, .ref ou), (4, .ref od), (5, .int 0)]) : W p l e room_1 s m #[Value.ref b] below meth c H locs 200 60000 (lw_Z below #[Value.ref b] s) (F0 m 1825 ls []) := by
  obtain ⟨s1, hs1⟩ : ∃ z, z = xs ((0 : Int32) + 1).toNatClampNeg := ⟨_, rfl⟩
  obtain ⟨s2, hs2⟩ : ∃ z, z = xs ((0 : Int32) + 2).toNatClampNeg := ⟨_, rfl⟩
  obtain ⟨s3, hs3⟩ : ∃ z, z = xs ((0 : Int32) + 3).toNatClampNeg := ⟨_, rfl⟩
  obtain ⟨s4, hs4⟩ : ∃ z, z = xs ((0 : Int32) + 4).toNatClampNeg := ⟨_, rfl⟩
  obtain ⟨s5, hs5⟩ : ∃ z, z = xs ((0 : Int32) + 5).toNatClampNeg := ⟨_, rfl⟩
  obtain ⟨s6, hs6⟩ : ∃ z, z = xs ((0 : Int32) + 6).toNatClampNeg := ⟨_, rfl⟩
  obtain ⟨k1, hk1⟩ : ∃ z, z = (s1.toUInt32 % 65536).toInt32 := ⟨_, rfl⟩
  obtain ⟨k2, hk2⟩ : ∃ z, z = (s2.toUInt32 % 65536).toInt32 := ⟨_, rfl⟩
  obtain ⟨k3, hk3⟩ : ∃ z, z = (s3.toUInt32 % 65536).toInt32 := ⟨_, rfl⟩
  obtain ⟨k4, hk4⟩ : ∃ z, z = (s4.toUInt32 % 65536).toInt32 := ⟨_, rfl⟩
  obtain ⟨k5, hk5⟩ : ∃ z, z = (s5.toUInt32 % 65536).toInt32 := ⟨_, rfl⟩
  obtain ⟨k6, hk6⟩ : ∃ z, z = (s6.toUInt32 % 65536).toInt32 := ⟨_, rfl⟩
  refine lv_aload_n hx hb dL_law_1825 rfl (lv_at hl 1 rfl) ?_
  refine lv_aload_n hx hb dL_law_1826 rfl (lv_at hl 0 rfl) ?_
  refine lv_iload hx hb dL_law_1827 (lv_at hl 5 rfl) ?_
  refine lv_iconst (v := 1) hx hb dL_law_1829 (by decide) ?_
  refine lv_iadd hx hb dL_law_1830 ?_
  refine va_sld hx hb hX hbl hbA hS sx1 dL_law_1831 ?_
  refine lv_topi (fun x_1 ex_1 => ?_)
  obtain rfl : s1 = x_1 := (ex_1.trans hs1.symm).symm
  refine lv_aload_n hx hb dL_law_1832 rfl (lv_at hl 3 rfl) ?_
  have hPc := hP.sub (ws' := [(ya, .inr (16, [.ref ms, .int 0, .ref ju, .ref li, .ref ct, .ref tg, .ref fw])), (ou, .inl (cL, 1, .inr (.inl (fun _ => 0))))]) [0, 1] rfl
  have hDc := hD.sub (ws' := [(ya, .inr (16, [.ref ms, .int 0, .ref ju, .ref li, .ref ct, .ref tg, .ref fw])), (ou, .inl (cL, 1, .inr (.inl (fun _ => 0))))]) [0, 1] (by decide) rfl
  have hKc := hK.sub (tys' := [(cL, .long)]) [0] rfl
  have hFc := va_free (wc := [(ya, .inr (16, [.ref ms, .int 0, .ref ju, .ref li, .ref ct, .ref tg, .ref fw])), (ou, .inl (cL, 1, .inr (.inl (fun _ => 0))))]) hD hS hA [0, 1] rfl
  refine vx_calli (vx_runSX (As := [.ref ya, .int s1, .ref ou]) (rest := []) ⟨hx, hb, hml, hown, hts⟩ (c_L_isDisputed l hfl dC dI ya ms ju li ct tg fw s1 cL ou (fun _ => 0) H.size) (vx_cwSW 3 hts gL_law_L_isDisputed rfl rfl rfl (by decide +kernel) ⟨Nat.le_of_ble_eq_true rfl, Nat.le_of_ble_eq_true rfl⟩) (pcSz (zX_ok) hPc hDc hKc hN hZ.1 hS hFc) rfl rfl hl.1 rfl (lv_room (Nat.le_of_ble_eq_true rfl)) dL_law_1833 ⟨Nat.le_of_ble_eq_true rfl, Nat.le_of_ble_eq_true rfl⟩) hS (fun q _ h => hFc q h) hFc (fun q _ h => hFc q h) (fun E9 ce9 q9 u9 t9 H9 locs9 ht9 hvm9 hp9 hE9 hz9 hk9 hS9 hc9 hv9 hcl9 => hE9.elim) (fun r_3 u t H1 locs ht hvm hw_4 hB hz1 hk1 hS => ?_)
  obtain of_2 := u
  obtain ⟨hP1, hK1, hD1⟩ := hB
  rw [ht] at hP1
  try dsimp only at hw_4
  obtain ⟨hP, hD⟩ := va_join (wr := [(xm, .inr (20, [.int 0, .int 0, .ref kn, .int 0, .int 0, .int 0, .ref ml, .ref cl, .ref rg, .ref tR, .ref (aK 0), .ref (aK 0), .ref fl, .int 0, .int 0, .int 0, .int 0, .int 0, .int 0, .int 0, .null])), (ml, .inr (4, [.int 0, .ref e0, .int 0]))]) (w1 := [(ou, .inl (cL, 1, .inr (.inl of_2)))]) hP hD [0, 1] [2, 3] rfl rfl (by decide) (by decide) hk1 hFc hP1 hD1
  generalize H1 = H at hP hS ⊢
  have hP : va_P (dC, dI) vwCl [(xm, .inr (20, [.int 0, .int 0, .ref kn, .int 0, .int 0, .int 0, .ref ml, .ref cl, .ref rg, .ref tR, .ref (aK 0), .ref (aK 0), .ref fl, .int 0, .int 0, .int 0, .int 0, .int 0, .int 0, .int 0, .null])), (ml, .inr (4, [.int 0, .ref e0, .int 0])), (ou, .inl (cL, 1, .inr (.inl of_2)))] H := hP
  have hD : va_D A [(xm, .inr (20, [.int 0, .int 0, .ref kn, .int 0, .int 0, .int 0, .ref ml, .ref cl, .ref rg, .ref tR, .ref (aK 0), .ref (aK 0), .ref fl, .int 0, .int 0, .int 0, .int 0, .int 0, .int 0, .int 0, .null])), (ml, .inr (4, [.int 0, .ref e0, .int 0])), (ou, .inl (cL, 1, .inr (.inl of_2)))] := hD
  refine W.widen (k := 201) (n := 60006) (Nat.le_of_ble_eq_true rfl) (Nat.le_of_ble_eq_true rfl) ?_
  obtain rfl : r_3 = 1 := hw_4
  refine lv_istore (lv' := [(6, .int 1), (0, .ref b), (1, .ref ya), (2, .ref xm), (3, .ref ou), (4, .ref od), (5, .int 0)]) hx hb dL_law_1836 hl (by decide) rfl (fun ls hl => ?_)
  refine lv_aload_n hx hb dL_law_1838 rfl (lv_at hl 3 rfl) ?_
  refine lv_aload_n hx hb dL_law_1839 rfl (lv_at hl 1 rfl) ?_
  refine lv_iload hx hb dL_law_1840 (lv_at hl 6 rfl) ?_
  refine lv_iconst (v := 1) hx hb dL_law_1842 (by decide) ?_
  refine lv_iadd hx hb dL_law_1843 ?_
  refine va_sld hx hb hX hbl hbA hS sx1 dL_law_1844 ?_
  refine lv_topi (fun x_5 ex_5 => ?_)
  obtain rfl : s1 = x_5 := (ex_5.trans hs1.symm).symm
  have hPc := hP.sub (ws' := [(xm, .inr (20, [.int 0, .int 0, .ref kn, .int 0, .int 0, .int 0, .ref ml, .ref cl, .ref rg, .ref tR, .ref (aK 0), .ref (aK 0), .ref fl, .int 0, .int 0, .int 0, .int 0, .int 0, .int 0, .int 0, .null])), (ml, .inr (4, [.int 0, .ref e0, .int 0]))]) [0, 1] rfl
  have hDc := hD.sub (ws' := [(xm, .inr (20, [.int 0, .int 0, .ref kn, .int 0, .int 0, .int 0, .ref ml, .ref cl, .ref rg, .ref tR, .ref (aK 0), .ref (aK 0), .ref fl, .int 0, .int 0, .int 0, .int 0, .int 0, .int 0, .int 0, .null])), (ml, .inr (4, [.int 0, .ref e0, .int 0]))]) [0, 1] (by decide) rfl
  have hKc := hK.sub (tys' := []) [] rfl
  have hFc := va_free (wc := [(xm, .inr (20, [.int 0, .int 0, .ref kn, .int 0, .int 0, .int 0, .ref ml, .ref cl, .ref rg, .ref tR, .ref (aK 0), .ref (aK 0), .ref fl, .int 0, .int 0, .int 0, .int 0, .int 0, .int 0, .int 0, .null])), (ml, .inr (4, [.int 0, .ref e0, .int 0]))]) hD hS hA [0, 1] rfl
  refine va_calli (va_runV (As := [.int s1]) (rest := []) ⟨hx, hb, hml, hown, hts⟩ (c_X15_isDisputed l dC dI xm ml cl fl kn rg tR e0 aK aV s1 H.size) (cwV 1 hts gL_law_X15_isDisputed rfl rfl rfl (by decide +kernel) ⟨Nat.le_of_ble_eq_true rfl, Nat.le_of_ble_eq_true rfl⟩) (pcV hPc hDc hKc hN (ci := 20) (q0 := 0) rfl rfl) rfl rfl hl.1 rfl (lv_room (Nat.le_of_ble_eq_true rfl)) dL_law_1845 ⟨Nat.le_of_ble_eq_true rfl, Nat.le_of_ble_eq_true rfl⟩) hS (fun q _ h => hFc q h) hFc (fun r_7 u t H1 locs ht hvm hw_8 hB hz1 hk1 hS => ?_)
  obtain fs_6 := u
  obtain ⟨hP1, hK1, hD1⟩ := hB
  rw [ht] at hP1
  try dsimp only at hw_8
  obtain ⟨hP, hD⟩ := va_join (wr := [(ou, .inl (cL, 1, .inr (.inl of_2)))]) (w1 := [(xm, .inr (20, fs_6))]) hP hD [0, 1] [2] rfl rfl (by decide) (by decide) hk1 hFc hP1 hD1
  generalize H1 = H at hP hS ⊢
  have hP : va_P (dC, dI) vwCl [(ou, .inl (cL, 1, .inr (.inl of_2))), (xm, .inr (20, fs_6))] H := hP
  have hD : va_D A [(ou, .inl (cL, 1, .inr (.inl of_2))), (xm, .inr (20, fs_6))] := hD
  refine lv_istore (lv' := [(7, .int r_7), (6, .int 1), (0, .ref b), (1, .ref ya), (2, .ref xm), (3, .ref ou), (4, .ref od), (5, .int 0)]) hx hb dL_law_1848 hl (by decide) rfl (fun ls hl => ?_)
  refine lv_aload_n hx hb dL_law_1850 rfl (lv_at hl 4 rfl) ?_
  have hPc := hP.sub (ws' := [(xm, .inr (20, fs_6))]) [1] rfl
  have hDc := hD.sub (ws' := [(xm, .inr (20, fs_6))]) [1] (by decide) rfl
  have hKc := hK.sub (tys' := []) [] rfl
  have hFc := va_free (wc := [(xm, .inr (20, fs_6))]) hD hS hA [1] rfl
  refine va_calli (va_runV (As := []) (rest := []) ⟨hx, hb, hml, hown, hts⟩ (c_X15_thrown l dC dI xm fs_6 1 hw_8 H.size) (cwV 0 hts gL_law_X15_thrown rfl rfl rfl (by decide +kernel) ⟨Nat.le_of_ble_eq_true rfl, Nat.le_of_ble_eq_true rfl⟩) (pcV hPc hDc hKc hN (ci := 20) (q0 := 0) rfl rfl) rfl rfl hl.1 rfl (lv_room (Nat.le_of_ble_eq_true rfl)) dL_law_1851 ⟨Nat.le_of_ble_eq_true rfl, Nat.le_of_ble_eq_true rfl⟩) hS (fun q _ h => hFc q h) hFc (fun r_9 u t H1 locs ht hvm hw_10 hB hz1 hk1 hS => ?_)
  obtain ⟨hP1, hK1, hD1⟩ := hB
  rw [ht] at hP1
  try dsimp only at hw_10
  obtain ⟨hP, hD⟩ := va_join (wr := [(ou, .inl (cL, 1, .inr (.inl of_2)))]) (w1 := []) hP hD [1] [0] rfl rfl (by decide) (by decide) hk1 hFc hP1 hD1
  generalize H1 = H at hP hS ⊢
  have hP : va_P (dC, dI) vwCl [(ou, .inl (cL, 1, .inr (.inl of_2)))] H := hP
  have hD : va_D A [(ou, .inl (cL, 1, .inr (.inl of_2)))] := hD
  obtain rfl : r_9 = 1 := hw_10
  refine lv_iload hx hb dL_law_1854 (lv_at hl 1 rfl) ?_
  refine lv_icmp_eq (tgt := 1861) hx hb dL_law_1856 (by decide) (fun c1856_11 => ?_) (fun c1856_11 => ?_)
  · refine lv_iload hx hb dL_law_1861 (lv_at hl 1 rfl) ?_
    refine lv_if_ne (tgt := 1885) hx hb dL_law_1863 (by decide) (fun c1863_12 => ?_) (fun c1863_12 => ?_)
    · refine lv_goto (tgt := 2778) hx hb dL_law_1885 (by decide) ?_
      refine W.widen (k := 600006) (n := 7302039) (Nat.le_of_ble_eq_true rfl) (Nat.le_of_ble_eq_true rfl) ?_
      exact law_end hx hb hr hml hX hbl hlocks hbA hAo hS (lv_sub hl [2, 7] rfl)
    · exact absurd c1863_12 (by decide)
  · exact (c1856_11 (by decide)).elim

set_option maxHeartbeats 8000000 in
set_option maxRecDepth 100000 in
/-- the law: law_23_holdouts -/
theorem law_23_holdouts {p : Program} {e : Env} {s : State} {m : MethodId} {below : List Frame} {meth : Method} {c : Code} {l : Launch} {b : Nat} {xs : Nat → Int32} (hx : p.tables.exec = Jvm.exec) (hb : c.code = cL_law) (hr : meth.sig.returnType = ret) (hml : c.maxLocals = 9) (hfl : l.stackTraces = false) (hown : s.vm.findClass RL = some m.cls) (hts : ∀ w ∈ wsL_law, w.before #[Value.ref b] s = true) (hX : va_X b 7 xs s s.heap) (hbl : b < s.heap.size) (hlocks : meth.locks = false) {A : Nat → Prop} (hbA : ¬ A b) (hAo : ∀ q, A q → s.heap.size ≤ q) (hA : ∀ q : Nat, s.heap.size ≤ q → A q) (dC : Nat → ClassId) (dI : Nat → Nat → Nat) (hN : nwA s) (e0 : Nat) (aK aV : Nat → Nat) (hZ : zX A s s.heap ∧ zM e0 aK aV A s s.heap) (ya ms ju rj tj ro rn tn rh th ca sa da xa wb z1 z2 jt z3 br z4 z5 z6 lk z7 z8 li bm l2 z9 bo h2 mm l1 z10 oo h1 ct cr cu cg cp co tg ts tr tk te fw fo fu xm ml cl fl rg tR ou od kn : Nat) (cI cM cS cL cD cB : ClassId) {H : Heap} {locs : List Loc} (hP : va_P (dC, dI) vwCl [(ya, .inr (16, [.ref ms, .int 0, .ref ju, .ref li, .ref ct, .ref tg, .ref fw])), (xm, .inr (20, [.int 0, .int 0, .ref kn, .int 0, .int 0, .int 0, .ref ml, .ref cl, .ref rg, .ref tR, .ref (aK 0), .ref (aK 0), .ref fl, .int 0, .int 0, .int 0, .int 0, .int 0, .int 0, .int 0, .null])), (ml, .inr (4, [.int 0, .ref e0, .int 0]))] H) (hD : va_D A [(ya, .inr (16, [.ref ms, .int 0, .ref ju, .ref li, .ref ct, .ref tg, .ref fw])), (xm, .inr (20, [.int 0, .int 0, .ref kn, .int 0, .int 0, .int 0, .ref ml, .ref cl, .ref rg, .ref tR, .ref (aK 0), .ref (aK 0), .ref fl, .int 0, .int 0, .int 0, .int 0, .int 0, .int 0, .int 0, .null])), (ml, .inr (4, [.int 0, .ref e0, .int 0]))]) (hK : va_K (dC, dI) vwCl [] s) (hS : va_S A s.heap H locs) {ls : Array Slot} (hl : lv_has ls 9 [(0, .ref b), (1, .ref ya), (2, .ref xm), (3, .ref ou), (4, .ref od), (5, .int 0)]) : W p l e room_1 s m #[Value.ref b] below meth c H locs 200 60000 (lw_Z below #[Value.ref b] s) (F0 m 1888 ls []) := by
  obtain ⟨s1, hs1⟩ : ∃ z, z = xs ((0 : Int32) + 1).toNatClampNeg := ⟨_, rfl⟩
  obtain ⟨s2, hs2⟩ : ∃ z, z = xs ((0 : Int32) + 2).toNatClampNeg := ⟨_, rfl⟩
  obtain ⟨s3, hs3⟩ : ∃ z, z = xs ((0 : Int32) + 3).toNatClampNeg := ⟨_, rfl⟩
  obtain ⟨s4, hs4⟩ : ∃ z, z = xs ((0 : Int32) + 4).toNatClampNeg := ⟨_, rfl⟩
  obtain ⟨s5, hs5⟩ : ∃ z, z = xs ((0 : Int32) + 5).toNatClampNeg := ⟨_, rfl⟩
  obtain ⟨s6, hs6⟩ : ∃ z, z = xs ((0 : Int32) + 6).toNatClampNeg := ⟨_, rfl⟩
  obtain ⟨k1, hk1⟩ : ∃ z, z = (s1.toUInt32 % 65536).toInt32 := ⟨_, rfl⟩
  obtain ⟨k2, hk2⟩ : ∃ z, z = (s2.toUInt32 % 65536).toInt32 := ⟨_, rfl⟩
  obtain ⟨k3, hk3⟩ : ∃ z, z = (s3.toUInt32 % 65536).toInt32 := ⟨_, rfl⟩
  obtain ⟨k4, hk4⟩ : ∃ z, z = (s4.toUInt32 % 65536).toInt32 := ⟨_, rfl⟩
  obtain ⟨k5, hk5⟩ : ∃ z, z = (s5.toUInt32 % 65536).toInt32 := ⟨_, rfl⟩
  obtain ⟨k6, hk6⟩ : ∃ z, z = (s6.toUInt32 % 65536).toInt32 := ⟨_, rfl⟩
  refine lv_aload_n hx hb dL_law_1888 rfl (lv_at hl 1 rfl) ?_
  have hPc := hP.sub (ws' := [(ya, .inr (16, [.ref ms, .int 0, .ref ju, .ref li, .ref ct, .ref tg, .ref fw]))]) [0] rfl
  have hDc := hD.sub (ws' := [(ya, .inr (16, [.ref ms, .int 0, .ref ju, .ref li, .ref ct, .ref tg, .ref fw]))]) [0] (by decide) rfl
  have hKc := hK.sub (tys' := []) [] rfl
  have hFc := va_free (wc := [(ya, .inr (16, [.ref ms, .int 0, .ref ju, .ref li, .ref ct, .ref tg, .ref fw]))]) hD hS hA [0] rfl
  refine vx_calli (vx_runV (As := []) (rest := []) ⟨hx, hb, hml, hown, hts⟩ (c_X11_holdouts l hfl dC dI ya ms ju li ct tg fw H.size) (cwV 0 hts gL_law_X11_holdouts rfl rfl rfl (by decide +kernel) ⟨Nat.le_of_ble_eq_true rfl, Nat.le_of_ble_eq_true rfl⟩) (pcVz (zX_ok) hPc hDc hKc hN hZ.1 hS hFc (ci := 16) (q0 := 0) rfl rfl) rfl rfl hl.1 rfl (lv_room (Nat.le_of_ble_eq_true rfl)) dL_law_1889 ⟨Nat.le_of_ble_eq_true rfl, Nat.le_of_ble_eq_true rfl⟩) hS (fun q _ h => hFc q h) hFc (fun q _ h => hFc q h) (fun E9 ce9 q9 u9 t9 H9 locs9 ht9 hvm9 hp9 hE9 hz9 hk9 hS9 hc9 hv9 hcl9 => hE9.elim) (fun r_1 u t H1 locs ht hvm hw_2 hB hz1 hk1 hS => ?_)
  obtain ⟨hP1, hK1, hD1⟩ := hB
  rw [ht] at hP1
  try dsimp only at hw_2
  obtain ⟨hP, hD⟩ := va_join (wr := [(xm, .inr (20, [.int 0, .int 0, .ref kn, .int 0, .int 0, .int 0, .ref ml, .ref cl, .ref rg, .ref tR, .ref (aK 0), .ref (aK 0), .ref fl, .int 0, .int 0, .int 0, .int 0, .int 0, .int 0, .int 0, .null])), (ml, .inr (4, [.int 0, .ref e0, .int 0]))]) (w1 := []) hP hD [0] [1, 2] rfl rfl (by decide) (by decide) hk1 hFc hP1 hD1
  generalize H1 = H at hP hS ⊢
  have hP : va_P (dC, dI) vwCl [(xm, .inr (20, [.int 0, .int 0, .ref kn, .int 0, .int 0, .int 0, .ref ml, .ref cl, .ref rg, .ref tR, .ref (aK 0), .ref (aK 0), .ref fl, .int 0, .int 0, .int 0, .int 0, .int 0, .int 0, .int 0, .null])), (ml, .inr (4, [.int 0, .ref e0, .int 0]))] H := hP
  have hD : va_D A [(xm, .inr (20, [.int 0, .int 0, .ref kn, .int 0, .int 0, .int 0, .ref ml, .ref cl, .ref rg, .ref tR, .ref (aK 0), .ref (aK 0), .ref fl, .int 0, .int 0, .int 0, .int 0, .int 0, .int 0, .int 0, .null])), (ml, .inr (4, [.int 0, .ref e0, .int 0]))] := hD
  obtain rfl : r_1 = 0 := hw_2
  refine lv_aload_n hx hb dL_law_1892 rfl (lv_at hl 2 rfl) ?_
  have hPc := hP.sub (ws' := [(xm, .inr (20, [.int 0, .int 0, .ref kn, .int 0, .int 0, .int 0, .ref ml, .ref cl, .ref rg, .ref tR, .ref (aK 0), .ref (aK 0), .ref fl, .int 0, .int 0, .int 0, .int 0, .int 0, .int 0, .int 0, .null])), (ml, .inr (4, [.int 0, .ref e0, .int 0]))]) [0, 1] rfl
  have hDc := hD.sub (ws' := [(xm, .inr (20, [.int 0, .int 0, .ref kn, .int 0, .int 0, .int 0, .ref ml, .ref cl, .ref rg, .ref tR, .ref (aK 0), .ref (aK 0), .ref fl, .int 0, .int 0, .int 0, .int 0, .int 0, .int 0, .int 0, .null])), (ml, .inr (4, [.int 0, .ref e0, .int 0]))]) [0, 1] (by decide) rfl
  have hKc := hK.sub (tys' := []) [] rfl
  have hFc := va_free (wc := [(xm, .inr (20, [.int 0, .int 0, .ref kn, .int 0, .int 0, .int 0, .ref ml, .ref cl, .ref rg, .ref tR, .ref (aK 0), .ref (aK 0), .ref fl, .int 0, .int 0, .int 0, .int 0, .int 0, .int 0, .int 0, .null])), (ml, .inr (4, [.int 0, .ref e0, .int 0]))]) hD hS hA [0, 1] rfl
  refine va_calli (va_runV (As := []) (rest := [.int 0]) ⟨hx, hb, hml, hown, hts⟩ (c_X15_holdouts l dC dI xm ml cl fl kn rg tR e0 aK aV H.size) (cwV 0 hts gL_law_X15_holdouts rfl rfl rfl (by decide +kernel) ⟨Nat.le_of_ble_eq_true rfl, Nat.le_of_ble_eq_true rfl⟩) (pcVz (zM_ok e0 aK aV) hPc hDc hKc hN hZ.2 hS hFc (ci := 20) (q0 := 0) rfl rfl) rfl rfl hl.1 rfl (lv_room (Nat.le_of_ble_eq_true rfl)) dL_law_1893 ⟨Nat.le_of_ble_eq_true rfl, Nat.le_of_ble_eq_true rfl⟩) hS (fun q _ h => hFc q h) hFc (fun r_4 u t H1 locs ht hvm hw_5 hB hz1 hk1 hS => ?_)
  obtain fs_3 := u
  obtain ⟨hP1, hK1, hD1⟩ := hB
  rw [ht] at hP1
  try dsimp only at hw_5
  obtain ⟨hP, hD⟩ := va_join (wr := []) (w1 := [(xm, .inr (20, fs_3))]) hP hD [0, 1] [] rfl rfl (by decide) (by decide) hk1 hFc hP1 hD1
  generalize H1 = H at hP hS ⊢
  have hP : va_P (dC, dI) vwCl [(xm, .inr (20, fs_3))] H := hP
  have hD : va_D A [(xm, .inr (20, fs_3))] := hD
  refine W.widen (k := 201) (n := 60004) (Nat.le_of_ble_eq_true rfl) (Nat.le_of_ble_eq_true rfl) ?_
  obtain rfl : r_4 = 0 := hw_5.2
  refine lv_icmp_eq (tgt := 2778) hx hb dL_law_1896 (by decide) (fun c1896_6 => ?_) (fun c1896_6 => ?_)
  · refine W.widen (k := 600006) (n := 7302039) (Nat.le_of_ble_eq_true rfl) (Nat.le_of_ble_eq_true rfl) ?_
    exact law_end hx hb hr hml hX hbl hlocks hbA hAo hS (lv_sub hl [0, 5] rfl)
  · exact (c1896_6 (by decide)).elim

set_option maxHeartbeats 8000000 in
set_option maxRecDepth 100000 in
/-- the law: law_24_holdoutAt -/
theorem law_24_holdoutAt {p : Program} {e : Env} {s : State} {m : MethodId} {below : List Frame} {meth : Method} {c : Code} {l : Launch} {b : Nat} {xs : Nat → Int32} (hx : p.tables.exec = Jvm.exec) (hb : c.code = cL_law) (hr : meth.sig.returnType = ret) (hml : c.maxLocals = 9) (hfl : l.stackTraces = false) (hown : s.vm.findClass RL = some m.cls) (hts : ∀ w ∈ wsL_law, w.before #[Value.ref b] s = true) (hX : va_X b 7 xs s s.heap) (hbl : b < s.heap.size) (hlocks : meth.locks = false) {A : Nat → Prop} (hbA : ¬ A b) (hAo : ∀ q, A q → s.heap.size ≤ q) (hA : ∀ q : Nat, s.heap.size ≤ q → A q) (dC : Nat → ClassId) (dI : Nat → Nat → Nat) (hN : nwA s) (e0 : Nat) (aK aV : Nat → Nat) (hZ : zX A s s.heap ∧ zM e0 aK aV A s s.heap) (ya ms ju rj tj ro rn tn rh th ca sa da xa wb z1 z2 jt z3 br z4 z5 z6 lk z7 z8 li bm l2 z9 bo h2 mm l1 z10 oo h1 ct cr cu cg cp co tg ts tr tk te fw fo fu xm ml cl fl rg tR ou od kn : Nat) (cI cM cS cL cD cB : ClassId) {H : Heap} {locs : List Loc} (hP : va_P (dC, dI) vwCl [(ya, .inr (16, [.ref ms, .int 0, .ref ju, .ref li, .ref ct, .ref tg, .ref fw])), (ou, .inl (cL, 1, .inr (.inl (fun _ => 0)))), (xm, .inr (20, [.int 0, .int 0, .ref kn, .int 0, .int 0, .int 0, .ref ml, .ref cl, .ref rg, .ref tR, .ref (aK 0), .ref (aK 0), .ref fl, .int 0, .int 0, .int 0, .int 0, .int 0, .int 0, .int 0, .null])), (ml, .inr (4, [.int 0, .ref e0, .int 0]))] H) (hD : va_D A [(ya, .inr (16, [.ref ms, .int 0, .ref ju, .ref li, .ref ct, .ref tg, .ref fw])), (ou, .inl (cL, 1, .inr (.inl (fun _ => 0)))), (xm, .inr (20, [.int 0, .int 0, .ref kn, .int 0, .int 0, .int 0, .ref ml, .ref cl, .ref rg, .ref tR, .ref (aK 0), .ref (aK 0), .ref fl, .int 0, .int 0, .int 0, .int 0, .int 0, .int 0, .int 0, .null])), (ml, .inr (4, [.int 0, .ref e0, .int 0]))]) (hK : va_K (dC, dI) vwCl [(cL, .long)] s) (hS : va_S A s.heap H locs) {ls : Array Slot} (hl : lv_has ls 9 [(0, .ref b), (1, .ref ya), (2, .ref xm), (3, .ref ou), (4, .ref od), (5, .int 0)]) : W p l e room_1 s m #[Value.ref b] below meth c H locs 200 60000 (lw_Z below #[Value.ref b] s) (F0 m 1901 ls []) := by
  obtain ⟨s1, hs1⟩ : ∃ z, z = xs ((0 : Int32) + 1).toNatClampNeg := ⟨_, rfl⟩
  obtain ⟨s2, hs2⟩ : ∃ z, z = xs ((0 : Int32) + 2).toNatClampNeg := ⟨_, rfl⟩
  obtain ⟨s3, hs3⟩ : ∃ z, z = xs ((0 : Int32) + 3).toNatClampNeg := ⟨_, rfl⟩
  obtain ⟨s4, hs4⟩ : ∃ z, z = xs ((0 : Int32) + 4).toNatClampNeg := ⟨_, rfl⟩
  obtain ⟨s5, hs5⟩ : ∃ z, z = xs ((0 : Int32) + 5).toNatClampNeg := ⟨_, rfl⟩
  obtain ⟨s6, hs6⟩ : ∃ z, z = xs ((0 : Int32) + 6).toNatClampNeg := ⟨_, rfl⟩
  obtain ⟨k1, hk1⟩ : ∃ z, z = (s1.toUInt32 % 65536).toInt32 := ⟨_, rfl⟩
  obtain ⟨k2, hk2⟩ : ∃ z, z = (s2.toUInt32 % 65536).toInt32 := ⟨_, rfl⟩
  obtain ⟨k3, hk3⟩ : ∃ z, z = (s3.toUInt32 % 65536).toInt32 := ⟨_, rfl⟩
  obtain ⟨k4, hk4⟩ : ∃ z, z = (s4.toUInt32 % 65536).toInt32 := ⟨_, rfl⟩
  obtain ⟨k5, hk5⟩ : ∃ z, z = (s5.toUInt32 % 65536).toInt32 := ⟨_, rfl⟩
  obtain ⟨k6, hk6⟩ : ∃ z, z = (s6.toUInt32 % 65536).toInt32 := ⟨_, rfl⟩
  refine lv_aload_n hx hb dL_law_1901 rfl (lv_at hl 1 rfl) ?_
  refine lv_aload_n hx hb dL_law_1902 rfl (lv_at hl 0 rfl) ?_
  refine lv_iload hx hb dL_law_1903 (lv_at hl 5 rfl) ?_
  refine lv_iconst (v := 1) hx hb dL_law_1905 (by decide) ?_
  refine lv_iadd hx hb dL_law_1906 ?_
  refine va_sld hx hb hX hbl hbA hS sx1 dL_law_1907 ?_
  refine lv_topi (fun x_1 ex_1 => ?_)
  obtain rfl : s1 = x_1 := (ex_1.trans hs1.symm).symm
  refine lv_aload_n hx hb dL_law_1908 rfl (lv_at hl 3 rfl) ?_
  have hPc := hP.sub (ws' := [(ya, .inr (16, [.ref ms, .int 0, .ref ju, .ref li, .ref ct, .ref tg, .ref fw])), (ou, .inl (cL, 1, .inr (.inl (fun _ => 0))))]) [0, 1] rfl
  have hDc := hD.sub (ws' := [(ya, .inr (16, [.ref ms, .int 0, .ref ju, .ref li, .ref ct, .ref tg, .ref fw])), (ou, .inl (cL, 1, .inr (.inl (fun _ => 0))))]) [0, 1] (by decide) rfl
  have hKc := hK.sub (tys' := [(cL, .long)]) [0] rfl
  have hFc := va_free (wc := [(ya, .inr (16, [.ref ms, .int 0, .ref ju, .ref li, .ref ct, .ref tg, .ref fw])), (ou, .inl (cL, 1, .inr (.inl (fun _ => 0))))]) hD hS hA [0, 1] rfl
  refine vx_calli (vx_runSX (As := [.ref ya, .int s1, .ref ou]) (rest := []) ⟨hx, hb, hml, hown, hts⟩ (c_L_holdoutAt l hfl dC dI ya ms ju li ct tg fw s1 cL ou (fun _ => 0) H.size) (vx_cwSW 3 hts gL_law_L_holdoutAt rfl rfl rfl (by decide +kernel) ⟨Nat.le_of_ble_eq_true rfl, Nat.le_of_ble_eq_true rfl⟩) (pcSz (zX_ok) hPc hDc hKc hN hZ.1 hS hFc) rfl rfl hl.1 rfl (lv_room (Nat.le_of_ble_eq_true rfl)) dL_law_1909 ⟨Nat.le_of_ble_eq_true rfl, Nat.le_of_ble_eq_true rfl⟩) hS (fun q _ h => hFc q h) hFc (fun q _ h => hFc q h) (fun E9 ce9 q9 u9 t9 H9 locs9 ht9 hvm9 hp9 hE9 hz9 hk9 hS9 hc9 hv9 hcl9 => hE9.elim) (fun r_3 u t H1 locs ht hvm hw_4 hB hz1 hk1 hS => ?_)
  obtain of_2 := u
  obtain ⟨hP1, hK1, hD1⟩ := hB
  rw [ht] at hP1
  try dsimp only at hw_4
  obtain ⟨hP, hD⟩ := va_join (wr := [(xm, .inr (20, [.int 0, .int 0, .ref kn, .int 0, .int 0, .int 0, .ref ml, .ref cl, .ref rg, .ref tR, .ref (aK 0), .ref (aK 0), .ref fl, .int 0, .int 0, .int 0, .int 0, .int 0, .int 0, .int 0, .null])), (ml, .inr (4, [.int 0, .ref e0, .int 0]))]) (w1 := [(ou, .inl (cL, 1, .inr (.inl of_2)))]) hP hD [0, 1] [2, 3] rfl rfl (by decide) (by decide) hk1 hFc hP1 hD1
  generalize H1 = H at hP hS ⊢
  have hP : va_P (dC, dI) vwCl [(xm, .inr (20, [.int 0, .int 0, .ref kn, .int 0, .int 0, .int 0, .ref ml, .ref cl, .ref rg, .ref tR, .ref (aK 0), .ref (aK 0), .ref fl, .int 0, .int 0, .int 0, .int 0, .int 0, .int 0, .int 0, .null])), (ml, .inr (4, [.int 0, .ref e0, .int 0])), (ou, .inl (cL, 1, .inr (.inl of_2)))] H := hP
  have hD : va_D A [(xm, .inr (20, [.int 0, .int 0, .ref kn, .int 0, .int 0, .int 0, .ref ml, .ref cl, .ref rg, .ref tR, .ref (aK 0), .ref (aK 0), .ref fl, .int 0, .int 0, .int 0, .int 0, .int 0, .int 0, .int 0, .null])), (ml, .inr (4, [.int 0, .ref e0, .int 0])), (ou, .inl (cL, 1, .inr (.inl of_2)))] := hD
  refine W.widen (k := 201) (n := 60006) (Nat.le_of_ble_eq_true rfl) (Nat.le_of_ble_eq_true rfl) ?_
  obtain rfl : r_3 = 1 := hw_4
  refine lv_istore (lv' := [(6, .int 1), (0, .ref b), (1, .ref ya), (2, .ref xm), (3, .ref ou), (4, .ref od), (5, .int 0)]) hx hb dL_law_1912 hl (by decide) rfl (fun ls hl => ?_)
  refine lv_aload_n hx hb dL_law_1914 rfl (lv_at hl 3 rfl) ?_
  refine lv_aload_n hx hb dL_law_1915 rfl (lv_at hl 1 rfl) ?_
  refine lv_iload hx hb dL_law_1916 (lv_at hl 6 rfl) ?_
  refine lv_iconst (v := 1) hx hb dL_law_1918 (by decide) ?_
  refine lv_iadd hx hb dL_law_1919 ?_
  refine va_sld hx hb hX hbl hbA hS sx1 dL_law_1920 ?_
  refine lv_topi (fun x_5 ex_5 => ?_)
  obtain rfl : s1 = x_5 := (ex_5.trans hs1.symm).symm
  have hPc := hP.sub (ws' := [(xm, .inr (20, [.int 0, .int 0, .ref kn, .int 0, .int 0, .int 0, .ref ml, .ref cl, .ref rg, .ref tR, .ref (aK 0), .ref (aK 0), .ref fl, .int 0, .int 0, .int 0, .int 0, .int 0, .int 0, .int 0, .null])), (ml, .inr (4, [.int 0, .ref e0, .int 0]))]) [0, 1] rfl
  have hDc := hD.sub (ws' := [(xm, .inr (20, [.int 0, .int 0, .ref kn, .int 0, .int 0, .int 0, .ref ml, .ref cl, .ref rg, .ref tR, .ref (aK 0), .ref (aK 0), .ref fl, .int 0, .int 0, .int 0, .int 0, .int 0, .int 0, .int 0, .null])), (ml, .inr (4, [.int 0, .ref e0, .int 0]))]) [0, 1] (by decide) rfl
  have hKc := hK.sub (tys' := []) [] rfl
  have hFc := va_free (wc := [(xm, .inr (20, [.int 0, .int 0, .ref kn, .int 0, .int 0, .int 0, .ref ml, .ref cl, .ref rg, .ref tR, .ref (aK 0), .ref (aK 0), .ref fl, .int 0, .int 0, .int 0, .int 0, .int 0, .int 0, .int 0, .null])), (ml, .inr (4, [.int 0, .ref e0, .int 0]))]) hD hS hA [0, 1] rfl
  refine va_calli (va_runV (As := [.int s1]) (rest := []) ⟨hx, hb, hml, hown, hts⟩ (c_X15_holdoutAt l dC dI xm ml cl fl kn rg tR e0 aK aV s1 H.size) (cwV 1 hts gL_law_X15_holdoutAt rfl rfl rfl (by decide +kernel) ⟨Nat.le_of_ble_eq_true rfl, Nat.le_of_ble_eq_true rfl⟩) (pcV hPc hDc hKc hN (ci := 20) (q0 := 0) rfl rfl) rfl rfl hl.1 rfl (lv_room (Nat.le_of_ble_eq_true rfl)) dL_law_1921 ⟨Nat.le_of_ble_eq_true rfl, Nat.le_of_ble_eq_true rfl⟩) hS (fun q _ h => hFc q h) hFc (fun r_7 u t H1 locs ht hvm hw_8 hB hz1 hk1 hS => ?_)
  obtain fs_6 := u
  obtain ⟨hP1, hK1, hD1⟩ := hB
  rw [ht] at hP1
  try dsimp only at hw_8
  obtain ⟨hP, hD⟩ := va_join (wr := [(ou, .inl (cL, 1, .inr (.inl of_2)))]) (w1 := [(xm, .inr (20, fs_6))]) hP hD [0, 1] [2] rfl rfl (by decide) (by decide) hk1 hFc hP1 hD1
  generalize H1 = H at hP hS ⊢
  have hP : va_P (dC, dI) vwCl [(ou, .inl (cL, 1, .inr (.inl of_2))), (xm, .inr (20, fs_6))] H := hP
  have hD : va_D A [(ou, .inl (cL, 1, .inr (.inl of_2))), (xm, .inr (20, fs_6))] := hD
  refine lv_istore (lv' := [(7, .int r_7), (6, .int 1), (0, .ref b), (1, .ref ya), (2, .ref xm), (3, .ref ou), (4, .ref od), (5, .int 0)]) hx hb dL_law_1924 hl (by decide) rfl (fun ls hl => ?_)
  refine lv_aload_n hx hb dL_law_1926 rfl (lv_at hl 4 rfl) ?_
  have hPc := hP.sub (ws' := [(xm, .inr (20, fs_6))]) [1] rfl
  have hDc := hD.sub (ws' := [(xm, .inr (20, fs_6))]) [1] (by decide) rfl
  have hKc := hK.sub (tys' := []) [] rfl
  have hFc := va_free (wc := [(xm, .inr (20, fs_6))]) hD hS hA [1] rfl
  refine va_calli (va_runV (As := []) (rest := []) ⟨hx, hb, hml, hown, hts⟩ (c_X15_thrown l dC dI xm fs_6 1 hw_8 H.size) (cwV 0 hts gL_law_X15_thrown rfl rfl rfl (by decide +kernel) ⟨Nat.le_of_ble_eq_true rfl, Nat.le_of_ble_eq_true rfl⟩) (pcV hPc hDc hKc hN (ci := 20) (q0 := 0) rfl rfl) rfl rfl hl.1 rfl (lv_room (Nat.le_of_ble_eq_true rfl)) dL_law_1927 ⟨Nat.le_of_ble_eq_true rfl, Nat.le_of_ble_eq_true rfl⟩) hS (fun q _ h => hFc q h) hFc (fun r_9 u t H1 locs ht hvm hw_10 hB hz1 hk1 hS => ?_)
  obtain ⟨hP1, hK1, hD1⟩ := hB
  rw [ht] at hP1
  try dsimp only at hw_10
  obtain ⟨hP, hD⟩ := va_join (wr := [(ou, .inl (cL, 1, .inr (.inl of_2)))]) (w1 := []) hP hD [1] [0] rfl rfl (by decide) (by decide) hk1 hFc hP1 hD1
  generalize H1 = H at hP hS ⊢
  have hP : va_P (dC, dI) vwCl [(ou, .inl (cL, 1, .inr (.inl of_2)))] H := hP
  have hD : va_D A [(ou, .inl (cL, 1, .inr (.inl of_2)))] := hD
  obtain rfl : r_9 = 1 := hw_10
  refine lv_iload hx hb dL_law_1930 (lv_at hl 1 rfl) ?_
  refine lv_icmp_eq (tgt := 1937) hx hb dL_law_1932 (by decide) (fun c1932_11 => ?_) (fun c1932_11 => ?_)
  · refine lv_iload hx hb dL_law_1937 (lv_at hl 1 rfl) ?_
    refine lv_if_ne (tgt := 1954) hx hb dL_law_1939 (by decide) (fun c1939_12 => ?_) (fun c1939_12 => ?_)
    · refine lv_goto (tgt := 2778) hx hb dL_law_1954 (by decide) ?_
      refine W.widen (k := 600006) (n := 7302039) (Nat.le_of_ble_eq_true rfl) (Nat.le_of_ble_eq_true rfl) ?_
      exact law_end hx hb hr hml hX hbl hlocks hbA hAo hS (lv_sub hl [2, 7] rfl)
    · exact absurd c1939_12 (by decide)
  · exact (c1932_11 (by decide)).elim

set_option maxHeartbeats 8000000 in
set_option maxRecDepth 100000 in
/-- the law: law_25_count -/
theorem law_25_count {p : Program} {e : Env} {s : State} {m : MethodId} {below : List Frame} {meth : Method} {c : Code} {l : Launch} {b : Nat} {xs : Nat → Int32} (hx : p.tables.exec = Jvm.exec) (hb : c.code = cL_law) (hr : meth.sig.returnType = ret) (hml : c.maxLocals = 9) (hfl : l.stackTraces = false) (hown : s.vm.findClass RL = some m.cls) (hts : ∀ w ∈ wsL_law, w.before #[Value.ref b] s = true) (hX : va_X b 7 xs s s.heap) (hbl : b < s.heap.size) (hlocks : meth.locks = false) {A : Nat → Prop} (hbA : ¬ A b) (hAo : ∀ q, A q → s.heap.size ≤ q) (hA : ∀ q : Nat, s.heap.size ≤ q → A q) (dC : Nat → ClassId) (dI : Nat → Nat → Nat) (hN : nwA s) (e0 : Nat) (aK aV : Nat → Nat) (hZ : zX A s s.heap ∧ zM e0 aK aV A s s.heap) (ya ms ju rj tj ro rn tn rh th ca sa da xa wb z1 z2 jt z3 br z4 z5 z6 lk z7 z8 li bm l2 z9 bo h2 mm l1 z10 oo h1 ct cr cu cg cp co tg ts tr tk te fw fo fu xm ml cl fl rg tR ou od kn : Nat) (cI cM cS cL cD cB : ClassId) {H : Heap} {locs : List Loc} (hP : va_P (dC, dI) vwCl [(ya, .inr (16, [.ref ms, .int 0, .ref ju, .ref li, .ref ct, .ref tg, .ref fw])), (ct, .inr (5, [.int 0, .ref cr, .ref cu, .ref cg, .ref cp, .ref co])), (cu, .inl (cI, 12, .inl (fun _ => 0))), (cg, .inl (cI, 12, .inl (fun _ => 0))), (cp, .inl (cI, 12, .inl (fun _ => 0))), (co, .inl (cI, 12, .inl (fun _ => 0))), (ou, .inl (cL, 1, .inr (.inl (fun _ => 0)))), (xm, .inr (20, [.int 0, .int 0, .ref kn, .int 0, .int 0, .int 0, .ref ml, .ref cl, .ref rg, .ref tR, .ref (aK 0), .ref (aK 0), .ref fl, .int 0, .int 0, .int 0, .int 0, .int 0, .int 0, .int 0, .null])), (cl, .inr (4, [.int 0, .ref e0, .int 0]))] H) (hD : va_D A [(ya, .inr (16, [.ref ms, .int 0, .ref ju, .ref li, .ref ct, .ref tg, .ref fw])), (ct, .inr (5, [.int 0, .ref cr, .ref cu, .ref cg, .ref cp, .ref co])), (cu, .inl (cI, 12, .inl (fun _ => 0))), (cg, .inl (cI, 12, .inl (fun _ => 0))), (cp, .inl (cI, 12, .inl (fun _ => 0))), (co, .inl (cI, 12, .inl (fun _ => 0))), (ou, .inl (cL, 1, .inr (.inl (fun _ => 0)))), (xm, .inr (20, [.int 0, .int 0, .ref kn, .int 0, .int 0, .int 0, .ref ml, .ref cl, .ref rg, .ref tR, .ref (aK 0), .ref (aK 0), .ref fl, .int 0, .int 0, .int 0, .int 0, .int 0, .int 0, .int 0, .null])), (cl, .inr (4, [.int 0, .ref e0, .int 0]))]) (hK : va_K (dC, dI) vwCl [(cI, .int), (cL, .long)] s) (hS : va_S A s.heap H locs) {ls : Array Slot} (hl : lv_has ls 9 [(0, .ref b), (1, .ref ya), (2, .ref xm), (3, .ref ou), (4, .ref od), (5, .int 0)]) : W p l e room_1 s m #[Value.ref b] below meth c H locs 200 60000 (lw_Z below #[Value.ref b] s) (F0 m 1957 ls []) := by
  obtain ⟨s1, hs1⟩ : ∃ z, z = xs ((0 : Int32) + 1).toNatClampNeg := ⟨_, rfl⟩
  obtain ⟨s2, hs2⟩ : ∃ z, z = xs ((0 : Int32) + 2).toNatClampNeg := ⟨_, rfl⟩
  obtain ⟨s3, hs3⟩ : ∃ z, z = xs ((0 : Int32) + 3).toNatClampNeg := ⟨_, rfl⟩
  obtain ⟨s4, hs4⟩ : ∃ z, z = xs ((0 : Int32) + 4).toNatClampNeg := ⟨_, rfl⟩
  obtain ⟨s5, hs5⟩ : ∃ z, z = xs ((0 : Int32) + 5).toNatClampNeg := ⟨_, rfl⟩
  obtain ⟨s6, hs6⟩ : ∃ z, z = xs ((0 : Int32) + 6).toNatClampNeg := ⟨_, rfl⟩
  obtain ⟨k1, hk1⟩ : ∃ z, z = (s1.toUInt32 % 65536).toInt32 := ⟨_, rfl⟩
  obtain ⟨k2, hk2⟩ : ∃ z, z = (s2.toUInt32 % 65536).toInt32 := ⟨_, rfl⟩
  obtain ⟨k3, hk3⟩ : ∃ z, z = (s3.toUInt32 % 65536).toInt32 := ⟨_, rfl⟩
  obtain ⟨k4, hk4⟩ : ∃ z, z = (s4.toUInt32 % 65536).toInt32 := ⟨_, rfl⟩
  obtain ⟨k5, hk5⟩ : ∃ z, z = (s5.toUInt32 % 65536).toInt32 := ⟨_, rfl⟩
  obtain ⟨k6, hk6⟩ : ∃ z, z = (s6.toUInt32 % 65536).toInt32 := ⟨_, rfl⟩
  refine lv_aload_n hx hb dL_law_1957 rfl (lv_at hl 1 rfl) ?_
  refine lv_aload_n hx hb dL_law_1958 rfl (lv_at hl 0 rfl) ?_
  refine lv_iload hx hb dL_law_1959 (lv_at hl 5 rfl) ?_
  refine lv_iconst (v := 1) hx hb dL_law_1961 (by decide) ?_
  refine lv_iadd hx hb dL_law_1962 ?_
  refine va_sld hx hb hX hbl hbA hS sx1 dL_law_1963 ?_
  refine lv_topi (fun x_1 ex_1 => ?_)
  obtain rfl : s1 = x_1 := (ex_1.trans hs1.symm).symm
  refine lv_i2c hx hb dL_law_1964 rfl ?_
  refine lv_topi (fun x_2 ex_2 => ?_)
  obtain rfl : k1 = x_2 := (ex_2.trans hk1.symm).symm
  refine lv_aload_n hx hb dL_law_1965 rfl (lv_at hl 0 rfl) ?_
  refine lv_iload hx hb dL_law_1966 (lv_at hl 5 rfl) ?_
  refine lv_iconst (v := 2) hx hb dL_law_1968 (by decide) ?_
  refine lv_iadd hx hb dL_law_1969 ?_
  refine va_sld hx hb hX hbl hbA hS sx2 dL_law_1970 ?_
  refine lv_topi (fun x_3 ex_3 => ?_)
  obtain rfl : s2 = x_3 := (ex_3.trans hs2.symm).symm
  refine lv_aload_n hx hb dL_law_1971 rfl (lv_at hl 0 rfl) ?_
  refine lv_iload hx hb dL_law_1972 (lv_at hl 5 rfl) ?_
  refine lv_iconst (v := 3) hx hb dL_law_1974 (by decide) ?_
  refine lv_iadd hx hb dL_law_1975 ?_
  refine va_sld hx hb hX hbl hbA hS sx3 dL_law_1976 ?_
  refine lv_topi (fun x_4 ex_4 => ?_)
  obtain rfl : s3 = x_4 := (ex_4.trans hs3.symm).symm
  refine lv_aload_n hx hb dL_law_1977 rfl (lv_at hl 0 rfl) ?_
  refine lv_iload hx hb dL_law_1978 (lv_at hl 5 rfl) ?_
  refine lv_iconst (v := 4) hx hb dL_law_1980 (by decide) ?_
  refine lv_iadd hx hb dL_law_1981 ?_
  refine va_sld hx hb hX hbl hbA hS sx4 dL_law_1982 ?_
  refine lv_topi (fun x_5 ex_5 => ?_)
  obtain rfl : s4 = x_5 := (ex_5.trans hs4.symm).symm
  refine lv_aload_n hx hb dL_law_1983 rfl (lv_at hl 3 rfl) ?_
  have hPc := hP.sub (ws' := [(ya, .inr (16, [.ref ms, .int 0, .ref ju, .ref li, .ref ct, .ref tg, .ref fw])), (ct, .inr (5, [.int 0, .ref cr, .ref cu, .ref cg, .ref cp, .ref co])), (cu, .inl (cI, 12, .inl (fun _ => 0))), (cg, .inl (cI, 12, .inl (fun _ => 0))), (cp, .inl (cI, 12, .inl (fun _ => 0))), (co, .inl (cI, 12, .inl (fun _ => 0))), (ou, .inl (cL, 1, .inr (.inl (fun _ => 0))))]) [0, 1, 2, 3, 4, 5, 6] rfl
  have hDc := hD.sub (ws' := [(ya, .inr (16, [.ref ms, .int 0, .ref ju, .ref li, .ref ct, .ref tg, .ref fw])), (ct, .inr (5, [.int 0, .ref cr, .ref cu, .ref cg, .ref cp, .ref co])), (cu, .inl (cI, 12, .inl (fun _ => 0))), (cg, .inl (cI, 12, .inl (fun _ => 0))), (cp, .inl (cI, 12, .inl (fun _ => 0))), (co, .inl (cI, 12, .inl (fun _ => 0))), (ou, .inl (cL, 1, .inr (.inl (fun _ => 0))))]) [0, 1, 2, 3, 4, 5, 6] (by decide) rfl
  have hKc := hK.sub (tys' := [(cI, .int), (cL, .long)]) [0, 1] rfl
  have hFc := va_free (wc := [(ya, .inr (16, [.ref ms, .int 0, .ref ju, .ref li, .ref ct, .ref tg, .ref fw])), (ct, .inr (5, [.int 0, .ref cr, .ref cu, .ref cg, .ref cp, .ref co])), (cu, .inl (cI, 12, .inl (fun _ => 0))), (cg, .inl (cI, 12, .inl (fun _ => 0))), (cp, .inl (cI, 12, .inl (fun _ => 0))), (co, .inl (cI, 12, .inl (fun _ => 0))), (ou, .inl (cL, 1, .inr (.inl (fun _ => 0))))]) hD hS hA [0, 1, 2, 3, 4, 5, 6] rfl
  refine vx_calli (vx_runSX (As := [.ref ya, .int k1, .int s2, .int s3, .int s4, .ref ou]) (rest := []) ⟨hx, hb, hml, hown, hts⟩ (c_L_count l hfl dC dI cI ya ms ju li ct tg fw cr cu cg cp co (fun _ => 0) (fun _ => 0) (fun _ => 0) (fun _ => 0) k1 s2 s3 s4 cL ou (fun _ => 0) H.size) (vx_cwSW 6 hts gL_law_L_count rfl rfl rfl (by decide +kernel) ⟨Nat.le_of_ble_eq_true rfl, Nat.le_of_ble_eq_true rfl⟩) (pcSz (zX_ok) hPc hDc hKc hN hZ.1 hS hFc) rfl rfl hl.1 rfl (lv_room (Nat.le_of_ble_eq_true rfl)) dL_law_1984 ⟨Nat.le_of_ble_eq_true rfl, Nat.le_of_ble_eq_true rfl⟩) hS (fun q _ h => hFc q h) hFc (fun q _ h => hFc q h) (fun E9 ce9 q9 u9 t9 H9 locs9 ht9 hvm9 hp9 hE9 hz9 hk9 hS9 hc9 hv9 hcl9 => hE9.elim) (fun r_7 u t H1 locs ht hvm hw_8 hB hz1 hk1 hS => ?_)
  obtain of_6 := u
  obtain ⟨hP1, hK1, hD1⟩ := hB
  rw [ht] at hP1
  try dsimp only at hw_8
  obtain ⟨hP, hD⟩ := va_join (wr := [(xm, .inr (20, [.int 0, .int 0, .ref kn, .int 0, .int 0, .int 0, .ref ml, .ref cl, .ref rg, .ref tR, .ref (aK 0), .ref (aK 0), .ref fl, .int 0, .int 0, .int 0, .int 0, .int 0, .int 0, .int 0, .null])), (cl, .inr (4, [.int 0, .ref e0, .int 0]))]) (w1 := [(ou, .inl (cL, 1, .inr (.inl of_6)))]) hP hD [0, 1, 2, 3, 4, 5, 6] [7, 8] rfl rfl (by decide) (by decide) hk1 hFc hP1 hD1
  generalize H1 = H at hP hS ⊢
  have hP : va_P (dC, dI) vwCl [(xm, .inr (20, [.int 0, .int 0, .ref kn, .int 0, .int 0, .int 0, .ref ml, .ref cl, .ref rg, .ref tR, .ref (aK 0), .ref (aK 0), .ref fl, .int 0, .int 0, .int 0, .int 0, .int 0, .int 0, .int 0, .null])), (cl, .inr (4, [.int 0, .ref e0, .int 0])), (ou, .inl (cL, 1, .inr (.inl of_6)))] H := hP
  have hD : va_D A [(xm, .inr (20, [.int 0, .int 0, .ref kn, .int 0, .int 0, .int 0, .ref ml, .ref cl, .ref rg, .ref tR, .ref (aK 0), .ref (aK 0), .ref fl, .int 0, .int 0, .int 0, .int 0, .int 0, .int 0, .int 0, .null])), (cl, .inr (4, [.int 0, .ref e0, .int 0])), (ou, .inl (cL, 1, .inr (.inl of_6)))] := hD
  refine W.widen (k := 203) (n := 60018) (Nat.le_of_ble_eq_true rfl) (Nat.le_of_ble_eq_true rfl) ?_
  rcases hw_8 with ⟨hr0, hPP, hv0⟩ | ⟨hr0, hPP⟩
  · obtain rfl : r_7 = 0 := hr0
    refine lv_istore (lv' := [(6, .int 0), (0, .ref b), (1, .ref ya), (2, .ref xm), (3, .ref ou), (4, .ref od), (5, .int 0)]) hx hb dL_law_1987 hl (by decide) rfl (fun ls hl => ?_)
    refine lv_aload_n hx hb dL_law_1989 rfl (lv_at hl 3 rfl) ?_
    refine lv_aload_n hx hb dL_law_1990 rfl (lv_at hl 1 rfl) ?_
    refine lv_iload hx hb dL_law_1991 (lv_at hl 6 rfl) ?_
    refine lv_iconst (v := 1) hx hb dL_law_1993 (by decide) ?_
    refine lv_iadd hx hb dL_law_1994 ?_
    refine va_sld hx hb hX hbl hbA hS sx1 dL_law_1995 ?_
    refine lv_topi (fun x_9 ex_9 => ?_)
    obtain rfl : s1 = x_9 := (ex_9.trans hs1.symm).symm
    refine lv_i2c hx hb dL_law_1996 rfl ?_
    refine lv_topi (fun x_10 ex_10 => ?_)
    obtain rfl : k1 = x_10 := (ex_10.trans hk1.symm).symm
    refine lv_aload_n hx hb dL_law_1997 rfl (lv_at hl 1 rfl) ?_
    refine lv_iload hx hb dL_law_1998 (lv_at hl 6 rfl) ?_
    refine lv_iconst (v := 2) hx hb dL_law_2000 (by decide) ?_
    refine lv_iadd hx hb dL_law_2001 ?_
    refine va_sld hx hb hX hbl hbA hS sx2 dL_law_2002 ?_
    refine lv_topi (fun x_11 ex_11 => ?_)
    obtain rfl : s2 = x_11 := (ex_11.trans hs2.symm).symm
    refine lv_aload_n hx hb dL_law_2003 rfl (lv_at hl 1 rfl) ?_
    refine lv_iload hx hb dL_law_2004 (lv_at hl 6 rfl) ?_
    refine lv_iconst (v := 3) hx hb dL_law_2006 (by decide) ?_
    refine lv_iadd hx hb dL_law_2007 ?_
    refine va_sld hx hb hX hbl hbA hS sx3 dL_law_2008 ?_
    refine lv_topi (fun x_12 ex_12 => ?_)
    obtain rfl : s3 = x_12 := (ex_12.trans hs3.symm).symm
    refine lv_aload_n hx hb dL_law_2009 rfl (lv_at hl 1 rfl) ?_
    refine lv_iload hx hb dL_law_2010 (lv_at hl 6 rfl) ?_
    refine lv_iconst (v := 4) hx hb dL_law_2012 (by decide) ?_
    refine lv_iadd hx hb dL_law_2013 ?_
    refine va_sld hx hb hX hbl hbA hS sx4 dL_law_2014 ?_
    refine lv_topi (fun x_13 ex_13 => ?_)
    obtain rfl : s4 = x_13 := (ex_13.trans hs4.symm).symm
    have hPc := hP.sub (ws' := [(xm, .inr (20, [.int 0, .int 0, .ref kn, .int 0, .int 0, .int 0, .ref ml, .ref cl, .ref rg, .ref tR, .ref (aK 0), .ref (aK 0), .ref fl, .int 0, .int 0, .int 0, .int 0, .int 0, .int 0, .int 0, .null])), (cl, .inr (4, [.int 0, .ref e0, .int 0]))]) [0, 1] rfl
    have hDc := hD.sub (ws' := [(xm, .inr (20, [.int 0, .int 0, .ref kn, .int 0, .int 0, .int 0, .ref ml, .ref cl, .ref rg, .ref tR, .ref (aK 0), .ref (aK 0), .ref fl, .int 0, .int 0, .int 0, .int 0, .int 0, .int 0, .int 0, .null])), (cl, .inr (4, [.int 0, .ref e0, .int 0]))]) [0, 1] (by decide) rfl
    have hKc := hK.sub (tys' := [(cI, .int)]) [0] rfl
    have hFc := va_free (wc := [(xm, .inr (20, [.int 0, .int 0, .ref kn, .int 0, .int 0, .int 0, .ref ml, .ref cl, .ref rg, .ref tR, .ref (aK 0), .ref (aK 0), .ref fl, .int 0, .int 0, .int 0, .int 0, .int 0, .int 0, .int 0, .null])), (cl, .inr (4, [.int 0, .ref e0, .int 0]))]) hD hS hA [0, 1] rfl
    refine va_calli (va_runV (As := [.int k1, .int s2, .int s3, .int s4]) (rest := []) ⟨hx, hb, hml, hown, hts⟩ (c_X15_count l dC dI xm ml cl fl kn rg tR e0 aK aV cI k1 s2 s3 s4 H.size) (cwV 4 hts gL_law_X15_count rfl rfl rfl (by decide +kernel) ⟨Nat.le_of_ble_eq_true rfl, Nat.le_of_ble_eq_true rfl⟩) (pcVz (zM_ok e0 aK aV) hPc hDc hKc hN hZ.2 hS hFc (ci := 20) (q0 := 0) rfl rfl) rfl rfl hl.1 rfl (lv_room (Nat.le_of_ble_eq_true rfl)) dL_law_2015 ⟨Nat.le_of_ble_eq_true rfl, Nat.le_of_ble_eq_true rfl⟩) hS (fun q _ h => hFc q h) hFc (fun r_15 u t H1 locs ht hvm hw_16 hB hz1 hk1 hS => ?_)
    obtain fs_14 := u
    obtain ⟨hP1, hK1, hD1⟩ := hB
    rw [ht] at hP1
    try dsimp only at hw_16
    obtain ⟨hP, hD⟩ := va_join (wr := [(ou, .inl (cL, 1, .inr (.inl of_6)))]) (w1 := [(xm, .inr (20, fs_14))]) hP hD [0, 1] [2] rfl rfl (by decide) (by decide) hk1 hFc hP1 hD1
    generalize H1 = H at hP hS ⊢
    have hP : va_P (dC, dI) vwCl [(ou, .inl (cL, 1, .inr (.inl of_6))), (xm, .inr (20, fs_14))] H := hP
    have hD : va_D A [(ou, .inl (cL, 1, .inr (.inl of_6))), (xm, .inr (20, fs_14))] := hD
    refine W.widen (k := 205) (n := 60032) (Nat.le_of_ble_eq_true rfl) (Nat.le_of_ble_eq_true rfl) ?_
    obtain ⟨ht9, hrv⟩ := hw_16.elim (fun h => h.2) (fun h => absurd hPP h.1)
    obtain rfl : r_15 = 1 := hrv
    refine lv_istore (lv' := [(7, .int 1), (6, .int 0), (0, .ref b), (1, .ref ya), (2, .ref xm), (3, .ref ou), (4, .ref od), (5, .int 0)]) hx hb dL_law_2018 hl (by decide) rfl (fun ls hl => ?_)
    refine lv_aload_n hx hb dL_law_2020 rfl (lv_at hl 4 rfl) ?_
    have hPc := hP.sub (ws' := [(xm, .inr (20, fs_14))]) [1] rfl
    have hDc := hD.sub (ws' := [(xm, .inr (20, fs_14))]) [1] (by decide) rfl
    have hKc := hK.sub (tys' := []) [] rfl
    have hFc := va_free (wc := [(xm, .inr (20, fs_14))]) hD hS hA [1] rfl
    refine va_calli (va_runV (As := []) (rest := []) ⟨hx, hb, hml, hown, hts⟩ (c_X15_thrown l dC dI xm fs_14 0 ht9 H.size) (cwV 0 hts gL_law_X15_thrown rfl rfl rfl (by decide +kernel) ⟨Nat.le_of_ble_eq_true rfl, Nat.le_of_ble_eq_true rfl⟩) (pcV hPc hDc hKc hN (ci := 20) (q0 := 0) rfl rfl) rfl rfl hl.1 rfl (lv_room (Nat.le_of_ble_eq_true rfl)) dL_law_2021 ⟨Nat.le_of_ble_eq_true rfl, Nat.le_of_ble_eq_true rfl⟩) hS (fun q _ h => hFc q h) hFc (fun r_17 u t H1 locs ht hvm hw_18 hB hz1 hk1 hS => ?_)
    obtain ⟨hP1, hK1, hD1⟩ := hB
    rw [ht] at hP1
    try dsimp only at hw_18
    obtain ⟨hP, hD⟩ := va_join (wr := [(ou, .inl (cL, 1, .inr (.inl of_6)))]) (w1 := []) hP hD [1] [0] rfl rfl (by decide) (by decide) hk1 hFc hP1 hD1
    generalize H1 = H at hP hS ⊢
    have hP : va_P (dC, dI) vwCl [(ou, .inl (cL, 1, .inr (.inl of_6)))] H := hP
    have hD : va_D A [(ou, .inl (cL, 1, .inr (.inl of_6)))] := hD
    obtain rfl : r_17 = 0 := hw_18
    refine lv_iload hx hb dL_law_2024 (lv_at hl 1 rfl) ?_
    refine lv_icmp_eq (tgt := 2031) hx hb dL_law_2026 (by decide) (fun c2026_19 => ?_) (fun c2026_19 => ?_)
    · refine lv_iload hx hb dL_law_2031 (lv_at hl 1 rfl) ?_
      refine lv_if_ne (tgt := 2048) hx hb dL_law_2033 (by decide) (fun c2033_20 => ?_) (fun c2033_20 => ?_)
      · exact (c2033_20 (by decide)).elim
      · refine lv_aload_n hx hb dL_law_2036 rfl (lv_at hl 5 rfl) ?_
        refine lv_iconst (v := 0) hx hb dL_law_2037 (by decide) ?_
        refine va_lald hx hb hK hP 0 1 rfl rfl (show vp_in (nI 0) 1 from vp_in_nI (by decide) (by decide)) dL_law_2038 ?_
        refine lv_topl (fun z_21 ez_21 => ?_)
        obtain rfl : z_21 = (1 : Int32).toInt64 := by rw [ez_21, show (0 : Int32).toNatClampNeg = 0 from by decide]; exact hv0
        refine lv_iload hx hb dL_law_2039 (lv_at hl 0 rfl) ?_
        refine lv_i2l hx hb dL_law_2041 rfl ?_
        refine W.lcmp hx hb dL_law_2042 ?_
        refine lv_if_eq (tgt := 2048) hx hb dL_law_2043 (by decide) (fun c2043_22 => ?_) (fun c2043_22 => ?_)
        · refine lv_goto (tgt := 2778) hx hb dL_law_2048 (by decide) ?_
          refine W.widen (k := 600006) (n := 7302039) (Nat.le_of_ble_eq_true rfl) (Nat.le_of_ble_eq_true rfl) ?_
          exact law_end hx hb hr hml hX hbl hlocks hbA hAo hS (lv_sub hl [2, 7] rfl)
        · exact absurd ((lg_cmp_eq _ _).mpr rfl) c2043_22
    · exact (c2026_19 (by decide)).elim
  · obtain rfl : r_7 = 1 := hr0
    refine lv_istore (lv' := [(6, .int 1), (0, .ref b), (1, .ref ya), (2, .ref xm), (3, .ref ou), (4, .ref od), (5, .int 0)]) hx hb dL_law_1987 hl (by decide) rfl (fun ls hl => ?_)
    refine lv_aload_n hx hb dL_law_1989 rfl (lv_at hl 3 rfl) ?_
    refine lv_aload_n hx hb dL_law_1990 rfl (lv_at hl 1 rfl) ?_
    refine lv_iload hx hb dL_law_1991 (lv_at hl 6 rfl) ?_
    refine lv_iconst (v := 1) hx hb dL_law_1993 (by decide) ?_
    refine lv_iadd hx hb dL_law_1994 ?_
    refine va_sld hx hb hX hbl hbA hS sx1 dL_law_1995 ?_
    refine lv_topi (fun x_23 ex_23 => ?_)
    obtain rfl : s1 = x_23 := (ex_23.trans hs1.symm).symm
    refine lv_i2c hx hb dL_law_1996 rfl ?_
    refine lv_topi (fun x_24 ex_24 => ?_)
    obtain rfl : k1 = x_24 := (ex_24.trans hk1.symm).symm
    refine lv_aload_n hx hb dL_law_1997 rfl (lv_at hl 1 rfl) ?_
    refine lv_iload hx hb dL_law_1998 (lv_at hl 6 rfl) ?_
    refine lv_iconst (v := 2) hx hb dL_law_2000 (by decide) ?_
    refine lv_iadd hx hb dL_law_2001 ?_
    refine va_sld hx hb hX hbl hbA hS sx2 dL_law_2002 ?_
    refine lv_topi (fun x_25 ex_25 => ?_)
    obtain rfl : s2 = x_25 := (ex_25.trans hs2.symm).symm
    refine lv_aload_n hx hb dL_law_2003 rfl (lv_at hl 1 rfl) ?_
    refine lv_iload hx hb dL_law_2004 (lv_at hl 6 rfl) ?_
    refine lv_iconst (v := 3) hx hb dL_law_2006 (by decide) ?_
    refine lv_iadd hx hb dL_law_2007 ?_
    refine va_sld hx hb hX hbl hbA hS sx3 dL_law_2008 ?_
    refine lv_topi (fun x_26 ex_26 => ?_)
    obtain rfl : s3 = x_26 := (ex_26.trans hs3.symm).symm
    refine lv_aload_n hx hb dL_law_2009 rfl (lv_at hl 1 rfl) ?_
    refine lv_iload hx hb dL_law_2010 (lv_at hl 6 rfl) ?_
    refine lv_iconst (v := 4) hx hb dL_law_2012 (by decide) ?_
    refine lv_iadd hx hb dL_law_2013 ?_
    refine va_sld hx hb hX hbl hbA hS sx4 dL_law_2014 ?_
    refine lv_topi (fun x_27 ex_27 => ?_)
    obtain rfl : s4 = x_27 := (ex_27.trans hs4.symm).symm
    have hPc := hP.sub (ws' := [(xm, .inr (20, [.int 0, .int 0, .ref kn, .int 0, .int 0, .int 0, .ref ml, .ref cl, .ref rg, .ref tR, .ref (aK 0), .ref (aK 0), .ref fl, .int 0, .int 0, .int 0, .int 0, .int 0, .int 0, .int 0, .null])), (cl, .inr (4, [.int 0, .ref e0, .int 0]))]) [0, 1] rfl
    have hDc := hD.sub (ws' := [(xm, .inr (20, [.int 0, .int 0, .ref kn, .int 0, .int 0, .int 0, .ref ml, .ref cl, .ref rg, .ref tR, .ref (aK 0), .ref (aK 0), .ref fl, .int 0, .int 0, .int 0, .int 0, .int 0, .int 0, .int 0, .null])), (cl, .inr (4, [.int 0, .ref e0, .int 0]))]) [0, 1] (by decide) rfl
    have hKc := hK.sub (tys' := [(cI, .int)]) [0] rfl
    have hFc := va_free (wc := [(xm, .inr (20, [.int 0, .int 0, .ref kn, .int 0, .int 0, .int 0, .ref ml, .ref cl, .ref rg, .ref tR, .ref (aK 0), .ref (aK 0), .ref fl, .int 0, .int 0, .int 0, .int 0, .int 0, .int 0, .int 0, .null])), (cl, .inr (4, [.int 0, .ref e0, .int 0]))]) hD hS hA [0, 1] rfl
    refine va_calli (va_runV (As := [.int k1, .int s2, .int s3, .int s4]) (rest := []) ⟨hx, hb, hml, hown, hts⟩ (c_X15_count l dC dI xm ml cl fl kn rg tR e0 aK aV cI k1 s2 s3 s4 H.size) (cwV 4 hts gL_law_X15_count rfl rfl rfl (by decide +kernel) ⟨Nat.le_of_ble_eq_true rfl, Nat.le_of_ble_eq_true rfl⟩) (pcVz (zM_ok e0 aK aV) hPc hDc hKc hN hZ.2 hS hFc (ci := 20) (q0 := 0) rfl rfl) rfl rfl hl.1 rfl (lv_room (Nat.le_of_ble_eq_true rfl)) dL_law_2015 ⟨Nat.le_of_ble_eq_true rfl, Nat.le_of_ble_eq_true rfl⟩) hS (fun q _ h => hFc q h) hFc (fun r_29 u t H1 locs ht hvm hw_30 hB hz1 hk1 hS => ?_)
    obtain fs_28 := u
    obtain ⟨hP1, hK1, hD1⟩ := hB
    rw [ht] at hP1
    try dsimp only at hw_30
    obtain ⟨hP, hD⟩ := va_join (wr := [(ou, .inl (cL, 1, .inr (.inl of_6)))]) (w1 := [(xm, .inr (20, fs_28))]) hP hD [0, 1] [2] rfl rfl (by decide) (by decide) hk1 hFc hP1 hD1
    generalize H1 = H at hP hS ⊢
    have hP : va_P (dC, dI) vwCl [(ou, .inl (cL, 1, .inr (.inl of_6))), (xm, .inr (20, fs_28))] H := hP
    have hD : va_D A [(ou, .inl (cL, 1, .inr (.inl of_6))), (xm, .inr (20, fs_28))] := hD
    refine W.widen (k := 205) (n := 60032) (Nat.le_of_ble_eq_true rfl) (Nat.le_of_ble_eq_true rfl) ?_
    have ht9 := hw_30.elim (fun h => absurd h.1 hPP) (fun h => h.2)
    refine lv_istore (lv' := [(7, .int r_29), (6, .int 1), (0, .ref b), (1, .ref ya), (2, .ref xm), (3, .ref ou), (4, .ref od), (5, .int 0)]) hx hb dL_law_2018 hl (by decide) rfl (fun ls hl => ?_)
    refine lv_aload_n hx hb dL_law_2020 rfl (lv_at hl 4 rfl) ?_
    have hPc := hP.sub (ws' := [(xm, .inr (20, fs_28))]) [1] rfl
    have hDc := hD.sub (ws' := [(xm, .inr (20, fs_28))]) [1] (by decide) rfl
    have hKc := hK.sub (tys' := []) [] rfl
    have hFc := va_free (wc := [(xm, .inr (20, fs_28))]) hD hS hA [1] rfl
    refine va_calli (va_runV (As := []) (rest := []) ⟨hx, hb, hml, hown, hts⟩ (c_X15_thrown l dC dI xm fs_28 1 ht9 H.size) (cwV 0 hts gL_law_X15_thrown rfl rfl rfl (by decide +kernel) ⟨Nat.le_of_ble_eq_true rfl, Nat.le_of_ble_eq_true rfl⟩) (pcV hPc hDc hKc hN (ci := 20) (q0 := 0) rfl rfl) rfl rfl hl.1 rfl (lv_room (Nat.le_of_ble_eq_true rfl)) dL_law_2021 ⟨Nat.le_of_ble_eq_true rfl, Nat.le_of_ble_eq_true rfl⟩) hS (fun q _ h => hFc q h) hFc (fun r_31 u t H1 locs ht hvm hw_32 hB hz1 hk1 hS => ?_)
    obtain ⟨hP1, hK1, hD1⟩ := hB
    rw [ht] at hP1
    try dsimp only at hw_32
    obtain ⟨hP, hD⟩ := va_join (wr := [(ou, .inl (cL, 1, .inr (.inl of_6)))]) (w1 := []) hP hD [1] [0] rfl rfl (by decide) (by decide) hk1 hFc hP1 hD1
    generalize H1 = H at hP hS ⊢
    have hP : va_P (dC, dI) vwCl [(ou, .inl (cL, 1, .inr (.inl of_6)))] H := hP
    have hD : va_D A [(ou, .inl (cL, 1, .inr (.inl of_6)))] := hD
    obtain rfl : r_31 = 1 := hw_32
    refine lv_iload hx hb dL_law_2024 (lv_at hl 1 rfl) ?_
    refine lv_icmp_eq (tgt := 2031) hx hb dL_law_2026 (by decide) (fun c2026_33 => ?_) (fun c2026_33 => ?_)
    · refine lv_iload hx hb dL_law_2031 (lv_at hl 1 rfl) ?_
      refine lv_if_ne (tgt := 2048) hx hb dL_law_2033 (by decide) (fun c2033_34 => ?_) (fun c2033_34 => ?_)
      · refine lv_goto (tgt := 2778) hx hb dL_law_2048 (by decide) ?_
        refine W.widen (k := 600006) (n := 7302039) (Nat.le_of_ble_eq_true rfl) (Nat.le_of_ble_eq_true rfl) ?_
        exact law_end hx hb hr hml hX hbl hlocks hbA hAo hS (lv_sub hl [2, 7] rfl)
      · exact absurd c2033_34 (by decide)
    · exact (c2026_33 (by decide)).elim

set_option maxHeartbeats 8000000 in
set_option maxRecDepth 100000 in
/-- the law: law_26_uncount -/
theorem law_26_uncount {p : Program} {e : Env} {s : State} {m : MethodId} {below : List Frame} {meth : Method} {c : Code} {l : Launch} {b : Nat} {xs : Nat → Int32} (hx : p.tables.exec = Jvm.exec) (hb : c.code = cL_law) (hr : meth.sig.returnType = ret) (hml : c.maxLocals = 9) (hfl : l.stackTraces = false) (hown : s.vm.findClass RL = some m.cls) (hts : ∀ w ∈ wsL_law, w.before #[Value.ref b] s = true) (hX : va_X b 7 xs s s.heap) (hbl : b < s.heap.size) (hlocks : meth.locks = false) {A : Nat → Prop} (hbA : ¬ A b) (hAo : ∀ q, A q → s.heap.size ≤ q) (hA : ∀ q : Nat, s.heap.size ≤ q → A q) (dC : Nat → ClassId) (dI : Nat → Nat → Nat) (hN : nwA s) (e0 : Nat) (aK aV : Nat → Nat) (hZ : zX A s s.heap ∧ zM e0 aK aV A s s.heap) (ya ms ju rj tj ro rn tn rh th ca sa da xa wb z1 z2 jt z3 br z4 z5 z6 lk z7 z8 li bm l2 z9 bo h2 mm l1 z10 oo h1 ct cr cu cg cp co tg ts tr tk te fw fo fu xm ml cl fl rg tR ou od kn : Nat) (cI cM cS cL cD cB : ClassId) {H : Heap} {locs : List Loc} (hP : va_P (dC, dI) vwCl [(ya, .inr (16, [.ref ms, .int 0, .ref ju, .ref li, .ref ct, .ref tg, .ref fw])), (ct, .inr (5, [.int 0, .ref cr, .ref cu, .ref cg, .ref cp, .ref co])), (xm, .inr (20, [.int 0, .int 0, .ref kn, .int 0, .int 0, .int 0, .ref ml, .ref cl, .ref rg, .ref tR, .ref (aK 0), .ref (aK 0), .ref fl, .int 0, .int 0, .int 0, .int 0, .int 0, .int 0, .int 0, .null])), (cl, .inr (4, [.int 0, .ref e0, .int 0]))] H) (hD : va_D A [(ya, .inr (16, [.ref ms, .int 0, .ref ju, .ref li, .ref ct, .ref tg, .ref fw])), (ct, .inr (5, [.int 0, .ref cr, .ref cu, .ref cg, .ref cp, .ref co])), (xm, .inr (20, [.int 0, .int 0, .ref kn, .int 0, .int 0, .int 0, .ref ml, .ref cl, .ref rg, .ref tR, .ref (aK 0), .ref (aK 0), .ref fl, .int 0, .int 0, .int 0, .int 0, .int 0, .int 0, .int 0, .null])), (cl, .inr (4, [.int 0, .ref e0, .int 0]))]) (hK : va_K (dC, dI) vwCl [] s) (hS : va_S A s.heap H locs) {ls : Array Slot} (hl : lv_has ls 9 [(0, .ref b), (1, .ref ya), (2, .ref xm), (3, .ref ou), (4, .ref od), (5, .int 0)]) : W p l e room_1 s m #[Value.ref b] below meth c H locs 200 60000 (lw_Z below #[Value.ref b] s) (F0 m 2051 ls []) := by
  obtain ⟨s1, hs1⟩ : ∃ z, z = xs ((0 : Int32) + 1).toNatClampNeg := ⟨_, rfl⟩
  obtain ⟨s2, hs2⟩ : ∃ z, z = xs ((0 : Int32) + 2).toNatClampNeg := ⟨_, rfl⟩
  obtain ⟨s3, hs3⟩ : ∃ z, z = xs ((0 : Int32) + 3).toNatClampNeg := ⟨_, rfl⟩
  obtain ⟨s4, hs4⟩ : ∃ z, z = xs ((0 : Int32) + 4).toNatClampNeg := ⟨_, rfl⟩
  obtain ⟨s5, hs5⟩ : ∃ z, z = xs ((0 : Int32) + 5).toNatClampNeg := ⟨_, rfl⟩
  obtain ⟨s6, hs6⟩ : ∃ z, z = xs ((0 : Int32) + 6).toNatClampNeg := ⟨_, rfl⟩
  obtain ⟨k1, hk1⟩ : ∃ z, z = (s1.toUInt32 % 65536).toInt32 := ⟨_, rfl⟩
  obtain ⟨k2, hk2⟩ : ∃ z, z = (s2.toUInt32 % 65536).toInt32 := ⟨_, rfl⟩
  obtain ⟨k3, hk3⟩ : ∃ z, z = (s3.toUInt32 % 65536).toInt32 := ⟨_, rfl⟩
  obtain ⟨k4, hk4⟩ : ∃ z, z = (s4.toUInt32 % 65536).toInt32 := ⟨_, rfl⟩
  obtain ⟨k5, hk5⟩ : ∃ z, z = (s5.toUInt32 % 65536).toInt32 := ⟨_, rfl⟩
  obtain ⟨k6, hk6⟩ : ∃ z, z = (s6.toUInt32 % 65536).toInt32 := ⟨_, rfl⟩
  refine lv_aload_n hx hb dL_law_2051 rfl (lv_at hl 1 rfl) ?_
  have hPc := hP.sub (ws' := [(ya, .inr (16, [.ref ms, .int 0, .ref ju, .ref li, .ref ct, .ref tg, .ref fw])), (ct, .inr (5, [.int 0, .ref cr, .ref cu, .ref cg, .ref cp, .ref co]))]) [0, 1] rfl
  have hDc := hD.sub (ws' := [(ya, .inr (16, [.ref ms, .int 0, .ref ju, .ref li, .ref ct, .ref tg, .ref fw])), (ct, .inr (5, [.int 0, .ref cr, .ref cu, .ref cg, .ref cp, .ref co]))]) [0, 1] (by decide) rfl
  have hKc := hK.sub (tys' := []) [] rfl
  have hFc := va_free (wc := [(ya, .inr (16, [.ref ms, .int 0, .ref ju, .ref li, .ref ct, .ref tg, .ref fw])), (ct, .inr (5, [.int 0, .ref cr, .ref cu, .ref cg, .ref cp, .ref co]))]) hD hS hA [0, 1] rfl
  refine vx_calli (vx_runV (As := []) (rest := []) ⟨hx, hb, hml, hown, hts⟩ (c_X11_uncount l hfl dC dI ya ms ju li ct tg fw cr cu cg cp co H.size) (cwV 0 hts gL_law_X11_uncount rfl rfl rfl (by decide +kernel) ⟨Nat.le_of_ble_eq_true rfl, Nat.le_of_ble_eq_true rfl⟩) (pcVz (zX_ok) hPc hDc hKc hN hZ.1 hS hFc (ci := 16) (q0 := 0) rfl rfl) rfl rfl hl.1 rfl (lv_room (Nat.le_of_ble_eq_true rfl)) dL_law_2052 ⟨Nat.le_of_ble_eq_true rfl, Nat.le_of_ble_eq_true rfl⟩) hS (fun q _ h => hFc q h) hFc (fun q _ h => hFc q h) (fun E9 ce9 q9 u9 t9 H9 locs9 ht9 hvm9 hp9 hE9 hz9 hk9 hS9 hc9 hv9 hcl9 => hE9.elim) (fun r_1 u t H1 locs ht hvm hw_2 hB hz1 hk1 hS => ?_)
  obtain ⟨hP1, hK1, hD1⟩ := hB
  rw [ht] at hP1
  try dsimp only at hw_2
  obtain ⟨hP, hD⟩ := va_join (wr := [(xm, .inr (20, [.int 0, .int 0, .ref kn, .int 0, .int 0, .int 0, .ref ml, .ref cl, .ref rg, .ref tR, .ref (aK 0), .ref (aK 0), .ref fl, .int 0, .int 0, .int 0, .int 0, .int 0, .int 0, .int 0, .null])), (cl, .inr (4, [.int 0, .ref e0, .int 0]))]) (w1 := []) hP hD [0, 1] [2, 3] rfl rfl (by decide) (by decide) hk1 hFc hP1 hD1
  generalize H1 = H at hP hS ⊢
  have hP : va_P (dC, dI) vwCl [(xm, .inr (20, [.int 0, .int 0, .ref kn, .int 0, .int 0, .int 0, .ref ml, .ref cl, .ref rg, .ref tR, .ref (aK 0), .ref (aK 0), .ref fl, .int 0, .int 0, .int 0, .int 0, .int 0, .int 0, .int 0, .null])), (cl, .inr (4, [.int 0, .ref e0, .int 0]))] H := hP
  have hD : va_D A [(xm, .inr (20, [.int 0, .int 0, .ref kn, .int 0, .int 0, .int 0, .ref ml, .ref cl, .ref rg, .ref tR, .ref (aK 0), .ref (aK 0), .ref fl, .int 0, .int 0, .int 0, .int 0, .int 0, .int 0, .int 0, .null])), (cl, .inr (4, [.int 0, .ref e0, .int 0]))] := hD
  obtain rfl : r_1 = 0 := hw_2
  refine lv_aload_n hx hb dL_law_2055 rfl (lv_at hl 2 rfl) ?_
  have hPc := hP.sub (ws' := [(xm, .inr (20, [.int 0, .int 0, .ref kn, .int 0, .int 0, .int 0, .ref ml, .ref cl, .ref rg, .ref tR, .ref (aK 0), .ref (aK 0), .ref fl, .int 0, .int 0, .int 0, .int 0, .int 0, .int 0, .int 0, .null])), (cl, .inr (4, [.int 0, .ref e0, .int 0]))]) [0, 1] rfl
  have hDc := hD.sub (ws' := [(xm, .inr (20, [.int 0, .int 0, .ref kn, .int 0, .int 0, .int 0, .ref ml, .ref cl, .ref rg, .ref tR, .ref (aK 0), .ref (aK 0), .ref fl, .int 0, .int 0, .int 0, .int 0, .int 0, .int 0, .int 0, .null])), (cl, .inr (4, [.int 0, .ref e0, .int 0]))]) [0, 1] (by decide) rfl
  have hKc := hK.sub (tys' := []) [] rfl
  have hFc := va_free (wc := [(xm, .inr (20, [.int 0, .int 0, .ref kn, .int 0, .int 0, .int 0, .ref ml, .ref cl, .ref rg, .ref tR, .ref (aK 0), .ref (aK 0), .ref fl, .int 0, .int 0, .int 0, .int 0, .int 0, .int 0, .int 0, .null])), (cl, .inr (4, [.int 0, .ref e0, .int 0]))]) hD hS hA [0, 1] rfl
  refine va_calli (va_runV (As := []) (rest := [.int 0]) ⟨hx, hb, hml, hown, hts⟩ (c_X15_uncount l dC dI xm ml cl fl kn rg tR e0 aK aV H.size) (cwV 0 hts gL_law_X15_uncount rfl rfl rfl (by decide +kernel) ⟨Nat.le_of_ble_eq_true rfl, Nat.le_of_ble_eq_true rfl⟩) (pcVz (zM_ok e0 aK aV) hPc hDc hKc hN hZ.2 hS hFc (ci := 20) (q0 := 0) rfl rfl) rfl rfl hl.1 rfl (lv_room (Nat.le_of_ble_eq_true rfl)) dL_law_2056 ⟨Nat.le_of_ble_eq_true rfl, Nat.le_of_ble_eq_true rfl⟩) hS (fun q _ h => hFc q h) hFc (fun r_4 u t H1 locs ht hvm hw_5 hB hz1 hk1 hS => ?_)
  obtain fs_3 := u
  obtain ⟨hP1, hK1, hD1⟩ := hB
  rw [ht] at hP1
  try dsimp only at hw_5
  obtain ⟨hP, hD⟩ := va_join (wr := []) (w1 := [(xm, .inr (20, fs_3))]) hP hD [0, 1] [] rfl rfl (by decide) (by decide) hk1 hFc hP1 hD1
  generalize H1 = H at hP hS ⊢
  have hP : va_P (dC, dI) vwCl [(xm, .inr (20, fs_3))] H := hP
  have hD : va_D A [(xm, .inr (20, fs_3))] := hD
  obtain rfl : r_4 = 0 := hw_5.2
  refine lv_icmp_eq (tgt := 2778) hx hb dL_law_2059 (by decide) (fun c2059_6 => ?_) (fun c2059_6 => ?_)
  · refine W.widen (k := 600006) (n := 7302039) (Nat.le_of_ble_eq_true rfl) (Nat.le_of_ble_eq_true rfl) ?_
    exact law_end hx hb hr hml hX hbl hlocks hbA hAo hS (lv_sub hl [0, 5] rfl)
  · exact (c2059_6 (by decide)).elim

set_option maxHeartbeats 8000000 in
set_option maxRecDepth 100000 in
/-- the law: law_27_runCounters -/
theorem law_27_runCounters {p : Program} {e : Env} {s : State} {m : MethodId} {below : List Frame} {meth : Method} {c : Code} {l : Launch} {b : Nat} {xs : Nat → Int32} (hx : p.tables.exec = Jvm.exec) (hb : c.code = cL_law) (hr : meth.sig.returnType = ret) (hml : c.maxLocals = 9) (hfl : l.stackTraces = false) (hown : s.vm.findClass RL = some m.cls) (hts : ∀ w ∈ wsL_law, w.before #[Value.ref b] s = true) (hX : va_X b 7 xs s s.heap) (hbl : b < s.heap.size) (hlocks : meth.locks = false) {A : Nat → Prop} (hbA : ¬ A b) (hAo : ∀ q, A q → s.heap.size ≤ q) (hA : ∀ q : Nat, s.heap.size ≤ q → A q) (dC : Nat → ClassId) (dI : Nat → Nat → Nat) (hN : nwA s) (e0 : Nat) (aK aV : Nat → Nat) (hZ : zX A s s.heap ∧ zM e0 aK aV A s s.heap) (ya ms ju rj tj ro rn tn rh th ca sa da xa wb z1 z2 jt z3 br z4 z5 z6 lk z7 z8 li bm l2 z9 bo h2 mm l1 z10 oo h1 ct cr cu cg cp co tg ts tr tk te fw fo fu xm ml cl fl rg tR ou od kn : Nat) (cI cM cS cL cD cB : ClassId) {H : Heap} {locs : List Loc} (hP : va_P (dC, dI) vwCl [(ya, .inr (16, [.ref ms, .int 0, .ref ju, .ref li, .ref ct, .ref tg, .ref fw])), (ct, .inr (5, [.int 0, .ref cr, .ref cu, .ref cg, .ref cp, .ref co])), (cr, .inl (cI, 4, .inl (fun _ => 0))), (ou, .inl (cL, 1, .inr (.inl (fun _ => 0)))), (xm, .inr (20, [.int 0, .int 0, .ref kn, .int 0, .int 0, .int 0, .ref ml, .ref cl, .ref rg, .ref tR, .ref (aK 0), .ref (aK 0), .ref fl, .int 0, .int 0, .int 0, .int 0, .int 0, .int 0, .int 0, .null])), (cl, .inr (4, [.int 0, .ref e0, .int 0])), (rg, .inl (cI, 4, .inl (fun _ => 0)))] H) (hD : va_D A [(ya, .inr (16, [.ref ms, .int 0, .ref ju, .ref li, .ref ct, .ref tg, .ref fw])), (ct, .inr (5, [.int 0, .ref cr, .ref cu, .ref cg, .ref cp, .ref co])), (cr, .inl (cI, 4, .inl (fun _ => 0))), (ou, .inl (cL, 1, .inr (.inl (fun _ => 0)))), (xm, .inr (20, [.int 0, .int 0, .ref kn, .int 0, .int 0, .int 0, .ref ml, .ref cl, .ref rg, .ref tR, .ref (aK 0), .ref (aK 0), .ref fl, .int 0, .int 0, .int 0, .int 0, .int 0, .int 0, .int 0, .null])), (cl, .inr (4, [.int 0, .ref e0, .int 0])), (rg, .inl (cI, 4, .inl (fun _ => 0)))]) (hK : va_K (dC, dI) vwCl [(cI, .int), (cL, .long)] s) (hS : va_S A s.heap H locs) {ls : Array Slot} (hl : lv_has ls 9 [(0, .ref b), (1, .ref ya), (2, .ref xm), (3, .ref ou), (4, .ref od), (5, .int 0)]) : W p l e room_1 s m #[Value.ref b] below meth c H locs 200 60000 (lw_Z below #[Value.ref b] s) (F0 m 2064 ls []) := by
  obtain ⟨s1, hs1⟩ : ∃ z, z = xs ((0 : Int32) + 1).toNatClampNeg := ⟨_, rfl⟩
  obtain ⟨s2, hs2⟩ : ∃ z, z = xs ((0 : Int32) + 2).toNatClampNeg := ⟨_, rfl⟩
  obtain ⟨s3, hs3⟩ : ∃ z, z = xs ((0 : Int32) + 3).toNatClampNeg := ⟨_, rfl⟩
  obtain ⟨s4, hs4⟩ : ∃ z, z = xs ((0 : Int32) + 4).toNatClampNeg := ⟨_, rfl⟩
  obtain ⟨s5, hs5⟩ : ∃ z, z = xs ((0 : Int32) + 5).toNatClampNeg := ⟨_, rfl⟩
  obtain ⟨s6, hs6⟩ : ∃ z, z = xs ((0 : Int32) + 6).toNatClampNeg := ⟨_, rfl⟩
  obtain ⟨k1, hk1⟩ : ∃ z, z = (s1.toUInt32 % 65536).toInt32 := ⟨_, rfl⟩
  obtain ⟨k2, hk2⟩ : ∃ z, z = (s2.toUInt32 % 65536).toInt32 := ⟨_, rfl⟩
  obtain ⟨k3, hk3⟩ : ∃ z, z = (s3.toUInt32 % 65536).toInt32 := ⟨_, rfl⟩
  obtain ⟨k4, hk4⟩ : ∃ z, z = (s4.toUInt32 % 65536).toInt32 := ⟨_, rfl⟩
  obtain ⟨k5, hk5⟩ : ∃ z, z = (s5.toUInt32 % 65536).toInt32 := ⟨_, rfl⟩
  obtain ⟨k6, hk6⟩ : ∃ z, z = (s6.toUInt32 % 65536).toInt32 := ⟨_, rfl⟩
  refine lv_aload_n hx hb dL_law_2064 rfl (lv_at hl 1 rfl) ?_
  refine lv_aload_n hx hb dL_law_2065 rfl (lv_at hl 0 rfl) ?_
  refine lv_iload hx hb dL_law_2066 (lv_at hl 5 rfl) ?_
  refine lv_iconst (v := 1) hx hb dL_law_2068 (by decide) ?_
  refine lv_iadd hx hb dL_law_2069 ?_
  refine va_sld hx hb hX hbl hbA hS sx1 dL_law_2070 ?_
  refine lv_topi (fun x_1 ex_1 => ?_)
  obtain rfl : s1 = x_1 := (ex_1.trans hs1.symm).symm
  refine lv_aload_n hx hb dL_law_2071 rfl (lv_at hl 0 rfl) ?_
  refine lv_iload hx hb dL_law_2072 (lv_at hl 5 rfl) ?_
  refine lv_iconst (v := 2) hx hb dL_law_2074 (by decide) ?_
  refine lv_iadd hx hb dL_law_2075 ?_
  refine va_sld hx hb hX hbl hbA hS sx2 dL_law_2076 ?_
  refine lv_topi (fun x_2 ex_2 => ?_)
  obtain rfl : s2 = x_2 := (ex_2.trans hs2.symm).symm
  refine lv_aload_n hx hb dL_law_2077 rfl (lv_at hl 0 rfl) ?_
  refine lv_iload hx hb dL_law_2078 (lv_at hl 5 rfl) ?_
  refine lv_iconst (v := 3) hx hb dL_law_2080 (by decide) ?_
  refine lv_iadd hx hb dL_law_2081 ?_
  refine va_sld hx hb hX hbl hbA hS sx3 dL_law_2082 ?_
  refine lv_topi (fun x_3 ex_3 => ?_)
  obtain rfl : s3 = x_3 := (ex_3.trans hs3.symm).symm
  refine lv_aload_n hx hb dL_law_2083 rfl (lv_at hl 3 rfl) ?_
  have hPc := hP.sub (ws' := [(ya, .inr (16, [.ref ms, .int 0, .ref ju, .ref li, .ref ct, .ref tg, .ref fw])), (ct, .inr (5, [.int 0, .ref cr, .ref cu, .ref cg, .ref cp, .ref co])), (cr, .inl (cI, 4, .inl (fun _ => 0))), (ou, .inl (cL, 1, .inr (.inl (fun _ => 0))))]) [0, 1, 2, 3] rfl
  have hDc := hD.sub (ws' := [(ya, .inr (16, [.ref ms, .int 0, .ref ju, .ref li, .ref ct, .ref tg, .ref fw])), (ct, .inr (5, [.int 0, .ref cr, .ref cu, .ref cg, .ref cp, .ref co])), (cr, .inl (cI, 4, .inl (fun _ => 0))), (ou, .inl (cL, 1, .inr (.inl (fun _ => 0))))]) [0, 1, 2, 3] (by decide) rfl
  have hKc := hK.sub (tys' := [(cI, .int), (cL, .long)]) [0, 1] rfl
  have hFc := va_free (wc := [(ya, .inr (16, [.ref ms, .int 0, .ref ju, .ref li, .ref ct, .ref tg, .ref fw])), (ct, .inr (5, [.int 0, .ref cr, .ref cu, .ref cg, .ref cp, .ref co])), (cr, .inl (cI, 4, .inl (fun _ => 0))), (ou, .inl (cL, 1, .inr (.inl (fun _ => 0))))]) hD hS hA [0, 1, 2, 3] rfl
  refine vx_calli (vx_runSX (As := [.ref ya, .int s1, .int s2, .int s3, .ref ou]) (rest := []) ⟨hx, hb, hml, hown, hts⟩ (c_L_runCounters l hfl dC dI cI ya ms ju li ct tg fw cr cu cg cp co (fun _ => 0) s1 s2 s3 cL ou (fun _ => 0) H.size) (vx_cwSW 5 hts gL_law_L_runCounters rfl rfl rfl (by decide +kernel) ⟨Nat.le_of_ble_eq_true rfl, Nat.le_of_ble_eq_true rfl⟩) (pcSz (zX_ok) hPc hDc hKc hN hZ.1 hS hFc) rfl rfl hl.1 rfl (lv_room (Nat.le_of_ble_eq_true rfl)) dL_law_2084 ⟨Nat.le_of_ble_eq_true rfl, Nat.le_of_ble_eq_true rfl⟩) hS (fun q _ h => hFc q h) hFc (fun q _ h => hFc q h) (fun E9 ce9 q9 u9 t9 H9 locs9 ht9 hvm9 hp9 hE9 hz9 hk9 hS9 hc9 hv9 hcl9 => hE9.elim) (fun r_5 u t H1 locs ht hvm hw_6 hB hz1 hk1 hS => ?_)
  obtain of_4 := u
  obtain ⟨hP1, hK1, hD1⟩ := hB
  rw [ht] at hP1
  try dsimp only at hw_6
  obtain ⟨hP, hD⟩ := va_join (wr := [(xm, .inr (20, [.int 0, .int 0, .ref kn, .int 0, .int 0, .int 0, .ref ml, .ref cl, .ref rg, .ref tR, .ref (aK 0), .ref (aK 0), .ref fl, .int 0, .int 0, .int 0, .int 0, .int 0, .int 0, .int 0, .null])), (cl, .inr (4, [.int 0, .ref e0, .int 0])), (rg, .inl (cI, 4, .inl (fun _ => 0)))]) (w1 := [(ou, .inl (cL, 1, .inr (.inl of_4)))]) hP hD [0, 1, 2, 3] [4, 5, 6] rfl rfl (by decide) (by decide) hk1 hFc hP1 hD1
  generalize H1 = H at hP hS ⊢
  have hP : va_P (dC, dI) vwCl [(xm, .inr (20, [.int 0, .int 0, .ref kn, .int 0, .int 0, .int 0, .ref ml, .ref cl, .ref rg, .ref tR, .ref (aK 0), .ref (aK 0), .ref fl, .int 0, .int 0, .int 0, .int 0, .int 0, .int 0, .int 0, .null])), (cl, .inr (4, [.int 0, .ref e0, .int 0])), (rg, .inl (cI, 4, .inl (fun _ => 0))), (ou, .inl (cL, 1, .inr (.inl of_4)))] H := hP
  have hD : va_D A [(xm, .inr (20, [.int 0, .int 0, .ref kn, .int 0, .int 0, .int 0, .ref ml, .ref cl, .ref rg, .ref tR, .ref (aK 0), .ref (aK 0), .ref fl, .int 0, .int 0, .int 0, .int 0, .int 0, .int 0, .int 0, .null])), (cl, .inr (4, [.int 0, .ref e0, .int 0])), (rg, .inl (cI, 4, .inl (fun _ => 0))), (ou, .inl (cL, 1, .inr (.inl of_4)))] := hD
  refine W.widen (k := 202) (n := 60012) (Nat.le_of_ble_eq_true rfl) (Nat.le_of_ble_eq_true rfl) ?_
  rcases hw_6 with ⟨hr0, hPP, hv0⟩ | ⟨hr0, hPP⟩
  · obtain rfl : r_5 = 0 := hr0
    refine lv_istore (lv' := [(6, .int 0), (0, .ref b), (1, .ref ya), (2, .ref xm), (3, .ref ou), (4, .ref od), (5, .int 0)]) hx hb dL_law_2087 hl (by decide) rfl (fun ls hl => ?_)
    refine lv_aload_n hx hb dL_law_2089 rfl (lv_at hl 3 rfl) ?_
    refine lv_aload_n hx hb dL_law_2090 rfl (lv_at hl 1 rfl) ?_
    refine lv_iload hx hb dL_law_2091 (lv_at hl 6 rfl) ?_
    refine lv_iconst (v := 1) hx hb dL_law_2093 (by decide) ?_
    refine lv_iadd hx hb dL_law_2094 ?_
    refine va_sld hx hb hX hbl hbA hS sx1 dL_law_2095 ?_
    refine lv_topi (fun x_7 ex_7 => ?_)
    obtain rfl : s1 = x_7 := (ex_7.trans hs1.symm).symm
    refine lv_aload_n hx hb dL_law_2096 rfl (lv_at hl 1 rfl) ?_
    refine lv_iload hx hb dL_law_2097 (lv_at hl 6 rfl) ?_
    refine lv_iconst (v := 2) hx hb dL_law_2099 (by decide) ?_
    refine lv_iadd hx hb dL_law_2100 ?_
    refine va_sld hx hb hX hbl hbA hS sx2 dL_law_2101 ?_
    refine lv_topi (fun x_8 ex_8 => ?_)
    obtain rfl : s2 = x_8 := (ex_8.trans hs2.symm).symm
    refine lv_aload_n hx hb dL_law_2102 rfl (lv_at hl 1 rfl) ?_
    refine lv_iload hx hb dL_law_2103 (lv_at hl 6 rfl) ?_
    refine lv_iconst (v := 3) hx hb dL_law_2105 (by decide) ?_
    refine lv_iadd hx hb dL_law_2106 ?_
    refine va_sld hx hb hX hbl hbA hS sx3 dL_law_2107 ?_
    refine lv_topi (fun x_9 ex_9 => ?_)
    obtain rfl : s3 = x_9 := (ex_9.trans hs3.symm).symm
    have hPc := hP.sub (ws' := [(xm, .inr (20, [.int 0, .int 0, .ref kn, .int 0, .int 0, .int 0, .ref ml, .ref cl, .ref rg, .ref tR, .ref (aK 0), .ref (aK 0), .ref fl, .int 0, .int 0, .int 0, .int 0, .int 0, .int 0, .int 0, .null])), (cl, .inr (4, [.int 0, .ref e0, .int 0])), (rg, .inl (cI, 4, .inl (fun _ => 0)))]) [0, 1, 2] rfl
    have hDc := hD.sub (ws' := [(xm, .inr (20, [.int 0, .int 0, .ref kn, .int 0, .int 0, .int 0, .ref ml, .ref cl, .ref rg, .ref tR, .ref (aK 0), .ref (aK 0), .ref fl, .int 0, .int 0, .int 0, .int 0, .int 0, .int 0, .int 0, .null])), (cl, .inr (4, [.int 0, .ref e0, .int 0])), (rg, .inl (cI, 4, .inl (fun _ => 0)))]) [0, 1, 2] (by decide) rfl
    have hKc := hK.sub (tys' := [(cI, .int)]) [0] rfl
    have hFc := va_free (wc := [(xm, .inr (20, [.int 0, .int 0, .ref kn, .int 0, .int 0, .int 0, .ref ml, .ref cl, .ref rg, .ref tR, .ref (aK 0), .ref (aK 0), .ref fl, .int 0, .int 0, .int 0, .int 0, .int 0, .int 0, .int 0, .null])), (cl, .inr (4, [.int 0, .ref e0, .int 0])), (rg, .inl (cI, 4, .inl (fun _ => 0)))]) hD hS hA [0, 1, 2] rfl
    refine va_calli (va_runV (As := [.int s1, .int s2, .int s3]) (rest := []) ⟨hx, hb, hml, hown, hts⟩ (c_X15_runCounters l dC dI xm ml cl fl kn rg tR e0 aK aV cI s1 s2 s3 H.size) (cwV 3 hts gL_law_X15_runCounters rfl rfl rfl (by decide +kernel) ⟨Nat.le_of_ble_eq_true rfl, Nat.le_of_ble_eq_true rfl⟩) (pcV hPc hDc hKc hN (ci := 20) (q0 := 0) rfl rfl) rfl rfl hl.1 rfl (lv_room (Nat.le_of_ble_eq_true rfl)) dL_law_2108 ⟨Nat.le_of_ble_eq_true rfl, Nat.le_of_ble_eq_true rfl⟩) hS (fun q _ h => hFc q h) hFc (fun r_11 u t H1 locs ht hvm hw_12 hB hz1 hk1 hS => ?_)
    obtain fs_10 := u
    obtain ⟨hP1, hK1, hD1⟩ := hB
    rw [ht] at hP1
    try dsimp only at hw_12
    obtain ⟨hP, hD⟩ := va_join (wr := [(ou, .inl (cL, 1, .inr (.inl of_4)))]) (w1 := [(xm, .inr (20, fs_10))]) hP hD [0, 1, 2] [3] rfl rfl (by decide) (by decide) hk1 hFc hP1 hD1
    generalize H1 = H at hP hS ⊢
    have hP : va_P (dC, dI) vwCl [(ou, .inl (cL, 1, .inr (.inl of_4))), (xm, .inr (20, fs_10))] H := hP
    have hD : va_D A [(ou, .inl (cL, 1, .inr (.inl of_4))), (xm, .inr (20, fs_10))] := hD
    obtain ⟨ht9, hrv⟩ := hw_12.elim (fun h => h.2) (fun h => absurd hPP h.1)
    obtain rfl : r_11 = 0 := hrv
    refine lv_istore (lv' := [(7, .int 0), (6, .int 0), (0, .ref b), (1, .ref ya), (2, .ref xm), (3, .ref ou), (4, .ref od), (5, .int 0)]) hx hb dL_law_2111 hl (by decide) rfl (fun ls hl => ?_)
    refine lv_aload_n hx hb dL_law_2113 rfl (lv_at hl 4 rfl) ?_
    have hPc := hP.sub (ws' := [(xm, .inr (20, fs_10))]) [1] rfl
    have hDc := hD.sub (ws' := [(xm, .inr (20, fs_10))]) [1] (by decide) rfl
    have hKc := hK.sub (tys' := []) [] rfl
    have hFc := va_free (wc := [(xm, .inr (20, fs_10))]) hD hS hA [1] rfl
    refine va_calli (va_runV (As := []) (rest := []) ⟨hx, hb, hml, hown, hts⟩ (c_X15_thrown l dC dI xm fs_10 0 ht9 H.size) (cwV 0 hts gL_law_X15_thrown rfl rfl rfl (by decide +kernel) ⟨Nat.le_of_ble_eq_true rfl, Nat.le_of_ble_eq_true rfl⟩) (pcV hPc hDc hKc hN (ci := 20) (q0 := 0) rfl rfl) rfl rfl hl.1 rfl (lv_room (Nat.le_of_ble_eq_true rfl)) dL_law_2114 ⟨Nat.le_of_ble_eq_true rfl, Nat.le_of_ble_eq_true rfl⟩) hS (fun q _ h => hFc q h) hFc (fun r_13 u t H1 locs ht hvm hw_14 hB hz1 hk1 hS => ?_)
    obtain ⟨hP1, hK1, hD1⟩ := hB
    rw [ht] at hP1
    try dsimp only at hw_14
    obtain ⟨hP, hD⟩ := va_join (wr := [(ou, .inl (cL, 1, .inr (.inl of_4)))]) (w1 := []) hP hD [1] [0] rfl rfl (by decide) (by decide) hk1 hFc hP1 hD1
    generalize H1 = H at hP hS ⊢
    have hP : va_P (dC, dI) vwCl [(ou, .inl (cL, 1, .inr (.inl of_4)))] H := hP
    have hD : va_D A [(ou, .inl (cL, 1, .inr (.inl of_4)))] := hD
    obtain rfl : r_13 = 0 := hw_14
    refine lv_iload hx hb dL_law_2117 (lv_at hl 1 rfl) ?_
    refine lv_icmp_eq (tgt := 2124) hx hb dL_law_2119 (by decide) (fun c2119_15 => ?_) (fun c2119_15 => ?_)
    · refine lv_iload hx hb dL_law_2124 (lv_at hl 1 rfl) ?_
      refine lv_if_ne (tgt := 2141) hx hb dL_law_2126 (by decide) (fun c2126_16 => ?_) (fun c2126_16 => ?_)
      · exact (c2126_16 (by decide)).elim
      · refine lv_aload_n hx hb dL_law_2129 rfl (lv_at hl 5 rfl) ?_
        refine lv_iconst (v := 0) hx hb dL_law_2130 (by decide) ?_
        refine va_lald hx hb hK hP 0 1 rfl rfl (show vp_in (nI 0) 1 from vp_in_nI (by decide) (by decide)) dL_law_2131 ?_
        refine lv_topl (fun z_17 ez_17 => ?_)
        obtain rfl : z_17 = (0 : Int32).toInt64 := by rw [ez_17, show (0 : Int32).toNatClampNeg = 0 from by decide]; exact hv0
        refine lv_iload hx hb dL_law_2132 (lv_at hl 0 rfl) ?_
        refine lv_i2l hx hb dL_law_2134 rfl ?_
        refine W.lcmp hx hb dL_law_2135 ?_
        refine lv_if_eq (tgt := 2141) hx hb dL_law_2136 (by decide) (fun c2136_18 => ?_) (fun c2136_18 => ?_)
        · refine lv_goto (tgt := 2778) hx hb dL_law_2141 (by decide) ?_
          refine W.widen (k := 600006) (n := 7302039) (Nat.le_of_ble_eq_true rfl) (Nat.le_of_ble_eq_true rfl) ?_
          exact law_end hx hb hr hml hX hbl hlocks hbA hAo hS (lv_sub hl [2, 7] rfl)
        · exact absurd ((lg_cmp_eq _ _).mpr rfl) c2136_18
    · exact (c2119_15 (by decide)).elim
  · obtain rfl : r_5 = 1 := hr0
    refine lv_istore (lv' := [(6, .int 1), (0, .ref b), (1, .ref ya), (2, .ref xm), (3, .ref ou), (4, .ref od), (5, .int 0)]) hx hb dL_law_2087 hl (by decide) rfl (fun ls hl => ?_)
    refine lv_aload_n hx hb dL_law_2089 rfl (lv_at hl 3 rfl) ?_
    refine lv_aload_n hx hb dL_law_2090 rfl (lv_at hl 1 rfl) ?_
    refine lv_iload hx hb dL_law_2091 (lv_at hl 6 rfl) ?_
    refine lv_iconst (v := 1) hx hb dL_law_2093 (by decide) ?_
    refine lv_iadd hx hb dL_law_2094 ?_
    refine va_sld hx hb hX hbl hbA hS sx1 dL_law_2095 ?_
    refine lv_topi (fun x_19 ex_19 => ?_)
    obtain rfl : s1 = x_19 := (ex_19.trans hs1.symm).symm
    refine lv_aload_n hx hb dL_law_2096 rfl (lv_at hl 1 rfl) ?_
    refine lv_iload hx hb dL_law_2097 (lv_at hl 6 rfl) ?_
    refine lv_iconst (v := 2) hx hb dL_law_2099 (by decide) ?_
    refine lv_iadd hx hb dL_law_2100 ?_
    refine va_sld hx hb hX hbl hbA hS sx2 dL_law_2101 ?_
    refine lv_topi (fun x_20 ex_20 => ?_)
    obtain rfl : s2 = x_20 := (ex_20.trans hs2.symm).symm
    refine lv_aload_n hx hb dL_law_2102 rfl (lv_at hl 1 rfl) ?_
    refine lv_iload hx hb dL_law_2103 (lv_at hl 6 rfl) ?_
    refine lv_iconst (v := 3) hx hb dL_law_2105 (by decide) ?_
    refine lv_iadd hx hb dL_law_2106 ?_
    refine va_sld hx hb hX hbl hbA hS sx3 dL_law_2107 ?_
    refine lv_topi (fun x_21 ex_21 => ?_)
    obtain rfl : s3 = x_21 := (ex_21.trans hs3.symm).symm
    have hPc := hP.sub (ws' := [(xm, .inr (20, [.int 0, .int 0, .ref kn, .int 0, .int 0, .int 0, .ref ml, .ref cl, .ref rg, .ref tR, .ref (aK 0), .ref (aK 0), .ref fl, .int 0, .int 0, .int 0, .int 0, .int 0, .int 0, .int 0, .null])), (cl, .inr (4, [.int 0, .ref e0, .int 0])), (rg, .inl (cI, 4, .inl (fun _ => 0)))]) [0, 1, 2] rfl
    have hDc := hD.sub (ws' := [(xm, .inr (20, [.int 0, .int 0, .ref kn, .int 0, .int 0, .int 0, .ref ml, .ref cl, .ref rg, .ref tR, .ref (aK 0), .ref (aK 0), .ref fl, .int 0, .int 0, .int 0, .int 0, .int 0, .int 0, .int 0, .null])), (cl, .inr (4, [.int 0, .ref e0, .int 0])), (rg, .inl (cI, 4, .inl (fun _ => 0)))]) [0, 1, 2] (by decide) rfl
    have hKc := hK.sub (tys' := [(cI, .int)]) [0] rfl
    have hFc := va_free (wc := [(xm, .inr (20, [.int 0, .int 0, .ref kn, .int 0, .int 0, .int 0, .ref ml, .ref cl, .ref rg, .ref tR, .ref (aK 0), .ref (aK 0), .ref fl, .int 0, .int 0, .int 0, .int 0, .int 0, .int 0, .int 0, .null])), (cl, .inr (4, [.int 0, .ref e0, .int 0])), (rg, .inl (cI, 4, .inl (fun _ => 0)))]) hD hS hA [0, 1, 2] rfl
    refine va_calli (va_runV (As := [.int s1, .int s2, .int s3]) (rest := []) ⟨hx, hb, hml, hown, hts⟩ (c_X15_runCounters l dC dI xm ml cl fl kn rg tR e0 aK aV cI s1 s2 s3 H.size) (cwV 3 hts gL_law_X15_runCounters rfl rfl rfl (by decide +kernel) ⟨Nat.le_of_ble_eq_true rfl, Nat.le_of_ble_eq_true rfl⟩) (pcV hPc hDc hKc hN (ci := 20) (q0 := 0) rfl rfl) rfl rfl hl.1 rfl (lv_room (Nat.le_of_ble_eq_true rfl)) dL_law_2108 ⟨Nat.le_of_ble_eq_true rfl, Nat.le_of_ble_eq_true rfl⟩) hS (fun q _ h => hFc q h) hFc (fun r_23 u t H1 locs ht hvm hw_24 hB hz1 hk1 hS => ?_)
    obtain fs_22 := u
    obtain ⟨hP1, hK1, hD1⟩ := hB
    rw [ht] at hP1
    try dsimp only at hw_24
    obtain ⟨hP, hD⟩ := va_join (wr := [(ou, .inl (cL, 1, .inr (.inl of_4)))]) (w1 := [(xm, .inr (20, fs_22))]) hP hD [0, 1, 2] [3] rfl rfl (by decide) (by decide) hk1 hFc hP1 hD1
    generalize H1 = H at hP hS ⊢
    have hP : va_P (dC, dI) vwCl [(ou, .inl (cL, 1, .inr (.inl of_4))), (xm, .inr (20, fs_22))] H := hP
    have hD : va_D A [(ou, .inl (cL, 1, .inr (.inl of_4))), (xm, .inr (20, fs_22))] := hD
    have ht9 := hw_24.elim (fun h => absurd h.1 hPP) (fun h => h.2)
    refine lv_istore (lv' := [(7, .int r_23), (6, .int 1), (0, .ref b), (1, .ref ya), (2, .ref xm), (3, .ref ou), (4, .ref od), (5, .int 0)]) hx hb dL_law_2111 hl (by decide) rfl (fun ls hl => ?_)
    refine lv_aload_n hx hb dL_law_2113 rfl (lv_at hl 4 rfl) ?_
    have hPc := hP.sub (ws' := [(xm, .inr (20, fs_22))]) [1] rfl
    have hDc := hD.sub (ws' := [(xm, .inr (20, fs_22))]) [1] (by decide) rfl
    have hKc := hK.sub (tys' := []) [] rfl
    have hFc := va_free (wc := [(xm, .inr (20, fs_22))]) hD hS hA [1] rfl
    refine va_calli (va_runV (As := []) (rest := []) ⟨hx, hb, hml, hown, hts⟩ (c_X15_thrown l dC dI xm fs_22 1 ht9 H.size) (cwV 0 hts gL_law_X15_thrown rfl rfl rfl (by decide +kernel) ⟨Nat.le_of_ble_eq_true rfl, Nat.le_of_ble_eq_true rfl⟩) (pcV hPc hDc hKc hN (ci := 20) (q0 := 0) rfl rfl) rfl rfl hl.1 rfl (lv_room (Nat.le_of_ble_eq_true rfl)) dL_law_2114 ⟨Nat.le_of_ble_eq_true rfl, Nat.le_of_ble_eq_true rfl⟩) hS (fun q _ h => hFc q h) hFc (fun r_25 u t H1 locs ht hvm hw_26 hB hz1 hk1 hS => ?_)
    obtain ⟨hP1, hK1, hD1⟩ := hB
    rw [ht] at hP1
    try dsimp only at hw_26
    obtain ⟨hP, hD⟩ := va_join (wr := [(ou, .inl (cL, 1, .inr (.inl of_4)))]) (w1 := []) hP hD [1] [0] rfl rfl (by decide) (by decide) hk1 hFc hP1 hD1
    generalize H1 = H at hP hS ⊢
    have hP : va_P (dC, dI) vwCl [(ou, .inl (cL, 1, .inr (.inl of_4)))] H := hP
    have hD : va_D A [(ou, .inl (cL, 1, .inr (.inl of_4)))] := hD
    obtain rfl : r_25 = 1 := hw_26
    refine lv_iload hx hb dL_law_2117 (lv_at hl 1 rfl) ?_
    refine lv_icmp_eq (tgt := 2124) hx hb dL_law_2119 (by decide) (fun c2119_27 => ?_) (fun c2119_27 => ?_)
    · refine lv_iload hx hb dL_law_2124 (lv_at hl 1 rfl) ?_
      refine lv_if_ne (tgt := 2141) hx hb dL_law_2126 (by decide) (fun c2126_28 => ?_) (fun c2126_28 => ?_)
      · refine lv_goto (tgt := 2778) hx hb dL_law_2141 (by decide) ?_
        refine W.widen (k := 600006) (n := 7302039) (Nat.le_of_ble_eq_true rfl) (Nat.le_of_ble_eq_true rfl) ?_
        exact law_end hx hb hr hml hX hbl hlocks hbA hAo hS (lv_sub hl [2, 7] rfl)
      · exact absurd c2126_28 (by decide)
    · exact (c2119_27 (by decide)).elim

set_option maxHeartbeats 8000000 in
set_option maxRecDepth 100000 in
/-- the law: law_28_register -/
theorem law_28_register {p : Program} {e : Env} {s : State} {m : MethodId} {below : List Frame} {meth : Method} {c : Code} {l : Launch} {b : Nat} {xs : Nat → Int32} (hx : p.tables.exec = Jvm.exec) (hb : c.code = cL_law) (hr : meth.sig.returnType = ret) (hml : c.maxLocals = 9) (hfl : l.stackTraces = false) (hown : s.vm.findClass RL = some m.cls) (hts : ∀ w ∈ wsL_law, w.before #[Value.ref b] s = true) (hX : va_X b 7 xs s s.heap) (hbl : b < s.heap.size) (hlocks : meth.locks = false) {A : Nat → Prop} (hbA : ¬ A b) (hAo : ∀ q, A q → s.heap.size ≤ q) (hA : ∀ q : Nat, s.heap.size ≤ q → A q) (dC : Nat → ClassId) (dI : Nat → Nat → Nat) (hN : nwA s) (e0 : Nat) (aK aV : Nat → Nat) (hZ : zX A s s.heap ∧ zM e0 aK aV A s s.heap) (ya ms ju rj tj ro rn tn rh th ca sa da xa wb z1 z2 jt z3 br z4 z5 z6 lk z7 z8 li bm l2 z9 bo h2 mm l1 z10 oo h1 ct cr cu cg cp co tg ts tr tk te fw fo fu xm ml cl fl rg tR ou od kn : Nat) (cI cM cS cL cD cB : ClassId) {H : Heap} {locs : List Loc} (hP : va_P (dC, dI) vwCl [(ya, .inr (16, [.ref ms, .int 0, .ref ju, .ref li, .ref ct, .ref tg, .ref fw])), (ct, .inr (5, [.int 0, .ref cr, .ref cu, .ref cg, .ref cp, .ref co])), (cr, .inl (cI, 4, .inl (fun _ => 0))), (ou, .inl (cL, 1, .inr (.inl (fun _ => 0)))), (xm, .inr (20, [.int 0, .int 0, .ref kn, .int 0, .int 0, .int 0, .ref ml, .ref cl, .ref rg, .ref tR, .ref (aK 0), .ref (aK 0), .ref fl, .int 0, .int 0, .int 0, .int 0, .int 0, .int 0, .int 0, .null])), (rg, .inl (cI, 4, .inl (fun _ => 0)))] H) (hD : va_D A [(ya, .inr (16, [.ref ms, .int 0, .ref ju, .ref li, .ref ct, .ref tg, .ref fw])), (ct, .inr (5, [.int 0, .ref cr, .ref cu, .ref cg, .ref cp, .ref co])), (cr, .inl (cI, 4, .inl (fun _ => 0))), (ou, .inl (cL, 1, .inr (.inl (fun _ => 0)))), (xm, .inr (20, [.int 0, .int 0, .ref kn, .int 0, .int 0, .int 0, .ref ml, .ref cl, .ref rg, .ref tR, .ref (aK 0), .ref (aK 0), .ref fl, .int 0, .int 0, .int 0, .int 0, .int 0, .int 0, .int 0, .null])), (rg, .inl (cI, 4, .inl (fun _ => 0)))]) (hK : va_K (dC, dI) vwCl [(cI, .int), (cL, .long)] s) (hS : va_S A s.heap H locs) {ls : Array Slot} (hl : lv_has ls 9 [(0, .ref b), (1, .ref ya), (2, .ref xm), (3, .ref ou), (4, .ref od), (5, .int 0)]) : W p l e room_1 s m #[Value.ref b] below meth c H locs 200 60000 (lw_Z below #[Value.ref b] s) (F0 m 2144 ls []) := by
  obtain ⟨s1, hs1⟩ : ∃ z, z = xs ((0 : Int32) + 1).toNatClampNeg := ⟨_, rfl⟩
  obtain ⟨s2, hs2⟩ : ∃ z, z = xs ((0 : Int32) + 2).toNatClampNeg := ⟨_, rfl⟩
  obtain ⟨s3, hs3⟩ : ∃ z, z = xs ((0 : Int32) + 3).toNatClampNeg := ⟨_, rfl⟩
  obtain ⟨s4, hs4⟩ : ∃ z, z = xs ((0 : Int32) + 4).toNatClampNeg := ⟨_, rfl⟩
  obtain ⟨s5, hs5⟩ : ∃ z, z = xs ((0 : Int32) + 5).toNatClampNeg := ⟨_, rfl⟩
  obtain ⟨s6, hs6⟩ : ∃ z, z = xs ((0 : Int32) + 6).toNatClampNeg := ⟨_, rfl⟩
  obtain ⟨k1, hk1⟩ : ∃ z, z = (s1.toUInt32 % 65536).toInt32 := ⟨_, rfl⟩
  obtain ⟨k2, hk2⟩ : ∃ z, z = (s2.toUInt32 % 65536).toInt32 := ⟨_, rfl⟩
  obtain ⟨k3, hk3⟩ : ∃ z, z = (s3.toUInt32 % 65536).toInt32 := ⟨_, rfl⟩
  obtain ⟨k4, hk4⟩ : ∃ z, z = (s4.toUInt32 % 65536).toInt32 := ⟨_, rfl⟩
  obtain ⟨k5, hk5⟩ : ∃ z, z = (s5.toUInt32 % 65536).toInt32 := ⟨_, rfl⟩
  obtain ⟨k6, hk6⟩ : ∃ z, z = (s6.toUInt32 % 65536).toInt32 := ⟨_, rfl⟩
  refine lv_aload_n hx hb dL_law_2144 rfl (lv_at hl 1 rfl) ?_
  refine lv_aload_n hx hb dL_law_2145 rfl (lv_at hl 0 rfl) ?_
  refine lv_iload hx hb dL_law_2146 (lv_at hl 5 rfl) ?_
  refine lv_iconst (v := 1) hx hb dL_law_2148 (by decide) ?_
  refine lv_iadd hx hb dL_law_2149 ?_
  refine va_sld hx hb hX hbl hbA hS sx1 dL_law_2150 ?_
  refine lv_topi (fun x_1 ex_1 => ?_)
  obtain rfl : s1 = x_1 := (ex_1.trans hs1.symm).symm
  refine lv_aload_n hx hb dL_law_2151 rfl (lv_at hl 3 rfl) ?_
  have hPc := hP.sub (ws' := [(ya, .inr (16, [.ref ms, .int 0, .ref ju, .ref li, .ref ct, .ref tg, .ref fw])), (ct, .inr (5, [.int 0, .ref cr, .ref cu, .ref cg, .ref cp, .ref co])), (cr, .inl (cI, 4, .inl (fun _ => 0))), (ou, .inl (cL, 1, .inr (.inl (fun _ => 0))))]) [0, 1, 2, 3] rfl
  have hDc := hD.sub (ws' := [(ya, .inr (16, [.ref ms, .int 0, .ref ju, .ref li, .ref ct, .ref tg, .ref fw])), (ct, .inr (5, [.int 0, .ref cr, .ref cu, .ref cg, .ref cp, .ref co])), (cr, .inl (cI, 4, .inl (fun _ => 0))), (ou, .inl (cL, 1, .inr (.inl (fun _ => 0))))]) [0, 1, 2, 3] (by decide) rfl
  have hKc := hK.sub (tys' := [(cI, .int), (cL, .long)]) [0, 1] rfl
  have hFc := va_free (wc := [(ya, .inr (16, [.ref ms, .int 0, .ref ju, .ref li, .ref ct, .ref tg, .ref fw])), (ct, .inr (5, [.int 0, .ref cr, .ref cu, .ref cg, .ref cp, .ref co])), (cr, .inl (cI, 4, .inl (fun _ => 0))), (ou, .inl (cL, 1, .inr (.inl (fun _ => 0))))]) hD hS hA [0, 1, 2, 3] rfl
  refine vx_calli (vx_runSX (As := [.ref ya, .int s1, .ref ou]) (rest := []) ⟨hx, hb, hml, hown, hts⟩ (c_L_register l hfl dC dI cI ya ms ju li ct tg fw cr cu cg cp co s1 cL ou (fun _ => 0) H.size) (vx_cwSW 3 hts gL_law_L_register rfl rfl rfl (by decide +kernel) ⟨Nat.le_of_ble_eq_true rfl, Nat.le_of_ble_eq_true rfl⟩) (pcSz (zX_ok) hPc hDc hKc hN hZ.1 hS hFc) rfl rfl hl.1 rfl (lv_room (Nat.le_of_ble_eq_true rfl)) dL_law_2152 ⟨Nat.le_of_ble_eq_true rfl, Nat.le_of_ble_eq_true rfl⟩) hS (fun q _ h => hFc q h) hFc (fun q _ h => hFc q h) (fun E9 ce9 q9 u9 t9 H9 locs9 ht9 hvm9 hp9 hE9 hz9 hk9 hS9 hc9 hv9 hcl9 => hE9.elim) (fun r_3 u t H1 locs ht hvm hw_4 hB hz1 hk1 hS => ?_)
  obtain of_2 := u
  obtain ⟨hP1, hK1, hD1⟩ := hB
  rw [ht] at hP1
  try dsimp only at hw_4
  obtain ⟨hP, hD⟩ := va_join (wr := [(xm, .inr (20, [.int 0, .int 0, .ref kn, .int 0, .int 0, .int 0, .ref ml, .ref cl, .ref rg, .ref tR, .ref (aK 0), .ref (aK 0), .ref fl, .int 0, .int 0, .int 0, .int 0, .int 0, .int 0, .int 0, .null])), (rg, .inl (cI, 4, .inl (fun _ => 0)))]) (w1 := [(ou, .inl (cL, 1, .inr (.inl of_2)))]) hP hD [0, 1, 2, 3] [4, 5] rfl rfl (by decide) (by decide) hk1 hFc hP1 hD1
  generalize H1 = H at hP hS ⊢
  have hP : va_P (dC, dI) vwCl [(xm, .inr (20, [.int 0, .int 0, .ref kn, .int 0, .int 0, .int 0, .ref ml, .ref cl, .ref rg, .ref tR, .ref (aK 0), .ref (aK 0), .ref fl, .int 0, .int 0, .int 0, .int 0, .int 0, .int 0, .int 0, .null])), (rg, .inl (cI, 4, .inl (fun _ => 0))), (ou, .inl (cL, 1, .inr (.inl of_2)))] H := hP
  have hD : va_D A [(xm, .inr (20, [.int 0, .int 0, .ref kn, .int 0, .int 0, .int 0, .ref ml, .ref cl, .ref rg, .ref tR, .ref (aK 0), .ref (aK 0), .ref fl, .int 0, .int 0, .int 0, .int 0, .int 0, .int 0, .int 0, .null])), (rg, .inl (cI, 4, .inl (fun _ => 0))), (ou, .inl (cL, 1, .inr (.inl of_2)))] := hD
  refine W.widen (k := 201) (n := 60006) (Nat.le_of_ble_eq_true rfl) (Nat.le_of_ble_eq_true rfl) ?_
  rcases hw_4 with ⟨hr0, hPP, hv0⟩ | ⟨hr0, hPP⟩
  · obtain rfl : r_3 = 0 := hr0
    refine lv_istore (lv' := [(6, .int 0), (0, .ref b), (1, .ref ya), (2, .ref xm), (3, .ref ou), (4, .ref od), (5, .int 0)]) hx hb dL_law_2155 hl (by decide) rfl (fun ls hl => ?_)
    refine lv_aload_n hx hb dL_law_2157 rfl (lv_at hl 3 rfl) ?_
    refine lv_aload_n hx hb dL_law_2158 rfl (lv_at hl 1 rfl) ?_
    refine lv_iload hx hb dL_law_2159 (lv_at hl 6 rfl) ?_
    refine lv_iconst (v := 1) hx hb dL_law_2161 (by decide) ?_
    refine lv_iadd hx hb dL_law_2162 ?_
    refine va_sld hx hb hX hbl hbA hS sx1 dL_law_2163 ?_
    refine lv_topi (fun x_5 ex_5 => ?_)
    obtain rfl : s1 = x_5 := (ex_5.trans hs1.symm).symm
    have hPc := hP.sub (ws' := [(xm, .inr (20, [.int 0, .int 0, .ref kn, .int 0, .int 0, .int 0, .ref ml, .ref cl, .ref rg, .ref tR, .ref (aK 0), .ref (aK 0), .ref fl, .int 0, .int 0, .int 0, .int 0, .int 0, .int 0, .int 0, .null])), (rg, .inl (cI, 4, .inl (fun _ => 0)))]) [0, 1] rfl
    have hDc := hD.sub (ws' := [(xm, .inr (20, [.int 0, .int 0, .ref kn, .int 0, .int 0, .int 0, .ref ml, .ref cl, .ref rg, .ref tR, .ref (aK 0), .ref (aK 0), .ref fl, .int 0, .int 0, .int 0, .int 0, .int 0, .int 0, .int 0, .null])), (rg, .inl (cI, 4, .inl (fun _ => 0)))]) [0, 1] (by decide) rfl
    have hKc := hK.sub (tys' := [(cI, .int)]) [0] rfl
    have hFc := va_free (wc := [(xm, .inr (20, [.int 0, .int 0, .ref kn, .int 0, .int 0, .int 0, .ref ml, .ref cl, .ref rg, .ref tR, .ref (aK 0), .ref (aK 0), .ref fl, .int 0, .int 0, .int 0, .int 0, .int 0, .int 0, .int 0, .null])), (rg, .inl (cI, 4, .inl (fun _ => 0)))]) hD hS hA [0, 1] rfl
    refine va_calli (va_runV (As := [.int s1]) (rest := []) ⟨hx, hb, hml, hown, hts⟩ (c_X15_register l dC dI xm ml cl fl kn rg tR e0 aK aV cI s1 H.size) (cwV 1 hts gL_law_X15_register rfl rfl rfl (by decide +kernel) ⟨Nat.le_of_ble_eq_true rfl, Nat.le_of_ble_eq_true rfl⟩) (pcV hPc hDc hKc hN (ci := 20) (q0 := 0) rfl rfl) rfl rfl hl.1 rfl (lv_room (Nat.le_of_ble_eq_true rfl)) dL_law_2164 ⟨Nat.le_of_ble_eq_true rfl, Nat.le_of_ble_eq_true rfl⟩) hS (fun q _ h => hFc q h) hFc (fun r_7 u t H1 locs ht hvm hw_8 hB hz1 hk1 hS => ?_)
    obtain fs_6 := u
    obtain ⟨hP1, hK1, hD1⟩ := hB
    rw [ht] at hP1
    try dsimp only at hw_8
    obtain ⟨hP, hD⟩ := va_join (wr := [(ou, .inl (cL, 1, .inr (.inl of_2)))]) (w1 := [(xm, .inr (20, fs_6))]) hP hD [0, 1] [2] rfl rfl (by decide) (by decide) hk1 hFc hP1 hD1
    generalize H1 = H at hP hS ⊢
    have hP : va_P (dC, dI) vwCl [(ou, .inl (cL, 1, .inr (.inl of_2))), (xm, .inr (20, fs_6))] H := hP
    have hD : va_D A [(ou, .inl (cL, 1, .inr (.inl of_2))), (xm, .inr (20, fs_6))] := hD
    obtain ⟨ht9, hrv⟩ := hw_8.elim (fun h => h.2) (fun h => absurd hPP h.1)
    obtain rfl : r_7 = 0 := hrv
    refine lv_istore (lv' := [(7, .int 0), (6, .int 0), (0, .ref b), (1, .ref ya), (2, .ref xm), (3, .ref ou), (4, .ref od), (5, .int 0)]) hx hb dL_law_2167 hl (by decide) rfl (fun ls hl => ?_)
    refine lv_aload_n hx hb dL_law_2169 rfl (lv_at hl 4 rfl) ?_
    have hPc := hP.sub (ws' := [(xm, .inr (20, fs_6))]) [1] rfl
    have hDc := hD.sub (ws' := [(xm, .inr (20, fs_6))]) [1] (by decide) rfl
    have hKc := hK.sub (tys' := []) [] rfl
    have hFc := va_free (wc := [(xm, .inr (20, fs_6))]) hD hS hA [1] rfl
    refine va_calli (va_runV (As := []) (rest := []) ⟨hx, hb, hml, hown, hts⟩ (c_X15_thrown l dC dI xm fs_6 0 ht9 H.size) (cwV 0 hts gL_law_X15_thrown rfl rfl rfl (by decide +kernel) ⟨Nat.le_of_ble_eq_true rfl, Nat.le_of_ble_eq_true rfl⟩) (pcV hPc hDc hKc hN (ci := 20) (q0 := 0) rfl rfl) rfl rfl hl.1 rfl (lv_room (Nat.le_of_ble_eq_true rfl)) dL_law_2170 ⟨Nat.le_of_ble_eq_true rfl, Nat.le_of_ble_eq_true rfl⟩) hS (fun q _ h => hFc q h) hFc (fun r_9 u t H1 locs ht hvm hw_10 hB hz1 hk1 hS => ?_)
    obtain ⟨hP1, hK1, hD1⟩ := hB
    rw [ht] at hP1
    try dsimp only at hw_10
    obtain ⟨hP, hD⟩ := va_join (wr := [(ou, .inl (cL, 1, .inr (.inl of_2)))]) (w1 := []) hP hD [1] [0] rfl rfl (by decide) (by decide) hk1 hFc hP1 hD1
    generalize H1 = H at hP hS ⊢
    have hP : va_P (dC, dI) vwCl [(ou, .inl (cL, 1, .inr (.inl of_2)))] H := hP
    have hD : va_D A [(ou, .inl (cL, 1, .inr (.inl of_2)))] := hD
    obtain rfl : r_9 = 0 := hw_10
    refine lv_iload hx hb dL_law_2173 (lv_at hl 1 rfl) ?_
    refine lv_icmp_eq (tgt := 2180) hx hb dL_law_2175 (by decide) (fun c2175_11 => ?_) (fun c2175_11 => ?_)
    · refine lv_iload hx hb dL_law_2180 (lv_at hl 1 rfl) ?_
      refine lv_if_ne (tgt := 2197) hx hb dL_law_2182 (by decide) (fun c2182_12 => ?_) (fun c2182_12 => ?_)
      · exact (c2182_12 (by decide)).elim
      · refine lv_aload_n hx hb dL_law_2185 rfl (lv_at hl 5 rfl) ?_
        refine lv_iconst (v := 0) hx hb dL_law_2186 (by decide) ?_
        refine va_lald hx hb hK hP 0 1 rfl rfl (show vp_in (nI 0) 1 from vp_in_nI (by decide) (by decide)) dL_law_2187 ?_
        refine lv_topl (fun z_13 ez_13 => ?_)
        obtain rfl : z_13 = (0 : Int32).toInt64 := by rw [ez_13, show (0 : Int32).toNatClampNeg = 0 from by decide]; exact hv0
        refine lv_iload hx hb dL_law_2188 (lv_at hl 0 rfl) ?_
        refine lv_i2l hx hb dL_law_2190 rfl ?_
        refine W.lcmp hx hb dL_law_2191 ?_
        refine lv_if_eq (tgt := 2197) hx hb dL_law_2192 (by decide) (fun c2192_14 => ?_) (fun c2192_14 => ?_)
        · refine lv_goto (tgt := 2778) hx hb dL_law_2197 (by decide) ?_
          refine W.widen (k := 600006) (n := 7302039) (Nat.le_of_ble_eq_true rfl) (Nat.le_of_ble_eq_true rfl) ?_
          exact law_end hx hb hr hml hX hbl hlocks hbA hAo hS (lv_sub hl [2, 7] rfl)
        · exact absurd ((lg_cmp_eq _ _).mpr rfl) c2192_14
    · exact (c2175_11 (by decide)).elim
  · obtain rfl : r_3 = 1 := hr0
    refine lv_istore (lv' := [(6, .int 1), (0, .ref b), (1, .ref ya), (2, .ref xm), (3, .ref ou), (4, .ref od), (5, .int 0)]) hx hb dL_law_2155 hl (by decide) rfl (fun ls hl => ?_)
    refine lv_aload_n hx hb dL_law_2157 rfl (lv_at hl 3 rfl) ?_
    refine lv_aload_n hx hb dL_law_2158 rfl (lv_at hl 1 rfl) ?_
    refine lv_iload hx hb dL_law_2159 (lv_at hl 6 rfl) ?_
    refine lv_iconst (v := 1) hx hb dL_law_2161 (by decide) ?_
    refine lv_iadd hx hb dL_law_2162 ?_
    refine va_sld hx hb hX hbl hbA hS sx1 dL_law_2163 ?_
    refine lv_topi (fun x_15 ex_15 => ?_)
    obtain rfl : s1 = x_15 := (ex_15.trans hs1.symm).symm
    have hPc := hP.sub (ws' := [(xm, .inr (20, [.int 0, .int 0, .ref kn, .int 0, .int 0, .int 0, .ref ml, .ref cl, .ref rg, .ref tR, .ref (aK 0), .ref (aK 0), .ref fl, .int 0, .int 0, .int 0, .int 0, .int 0, .int 0, .int 0, .null])), (rg, .inl (cI, 4, .inl (fun _ => 0)))]) [0, 1] rfl
    have hDc := hD.sub (ws' := [(xm, .inr (20, [.int 0, .int 0, .ref kn, .int 0, .int 0, .int 0, .ref ml, .ref cl, .ref rg, .ref tR, .ref (aK 0), .ref (aK 0), .ref fl, .int 0, .int 0, .int 0, .int 0, .int 0, .int 0, .int 0, .null])), (rg, .inl (cI, 4, .inl (fun _ => 0)))]) [0, 1] (by decide) rfl
    have hKc := hK.sub (tys' := [(cI, .int)]) [0] rfl
    have hFc := va_free (wc := [(xm, .inr (20, [.int 0, .int 0, .ref kn, .int 0, .int 0, .int 0, .ref ml, .ref cl, .ref rg, .ref tR, .ref (aK 0), .ref (aK 0), .ref fl, .int 0, .int 0, .int 0, .int 0, .int 0, .int 0, .int 0, .null])), (rg, .inl (cI, 4, .inl (fun _ => 0)))]) hD hS hA [0, 1] rfl
    refine va_calli (va_runV (As := [.int s1]) (rest := []) ⟨hx, hb, hml, hown, hts⟩ (c_X15_register l dC dI xm ml cl fl kn rg tR e0 aK aV cI s1 H.size) (cwV 1 hts gL_law_X15_register rfl rfl rfl (by decide +kernel) ⟨Nat.le_of_ble_eq_true rfl, Nat.le_of_ble_eq_true rfl⟩) (pcV hPc hDc hKc hN (ci := 20) (q0 := 0) rfl rfl) rfl rfl hl.1 rfl (lv_room (Nat.le_of_ble_eq_true rfl)) dL_law_2164 ⟨Nat.le_of_ble_eq_true rfl, Nat.le_of_ble_eq_true rfl⟩) hS (fun q _ h => hFc q h) hFc (fun r_17 u t H1 locs ht hvm hw_18 hB hz1 hk1 hS => ?_)
    obtain fs_16 := u
    obtain ⟨hP1, hK1, hD1⟩ := hB
    rw [ht] at hP1
    try dsimp only at hw_18
    obtain ⟨hP, hD⟩ := va_join (wr := [(ou, .inl (cL, 1, .inr (.inl of_2)))]) (w1 := [(xm, .inr (20, fs_16))]) hP hD [0, 1] [2] rfl rfl (by decide) (by decide) hk1 hFc hP1 hD1
    generalize H1 = H at hP hS ⊢
    have hP : va_P (dC, dI) vwCl [(ou, .inl (cL, 1, .inr (.inl of_2))), (xm, .inr (20, fs_16))] H := hP
    have hD : va_D A [(ou, .inl (cL, 1, .inr (.inl of_2))), (xm, .inr (20, fs_16))] := hD
    have ht9 := hw_18.elim (fun h => absurd h.1 hPP) (fun h => h.2)
    refine lv_istore (lv' := [(7, .int r_17), (6, .int 1), (0, .ref b), (1, .ref ya), (2, .ref xm), (3, .ref ou), (4, .ref od), (5, .int 0)]) hx hb dL_law_2167 hl (by decide) rfl (fun ls hl => ?_)
    refine lv_aload_n hx hb dL_law_2169 rfl (lv_at hl 4 rfl) ?_
    have hPc := hP.sub (ws' := [(xm, .inr (20, fs_16))]) [1] rfl
    have hDc := hD.sub (ws' := [(xm, .inr (20, fs_16))]) [1] (by decide) rfl
    have hKc := hK.sub (tys' := []) [] rfl
    have hFc := va_free (wc := [(xm, .inr (20, fs_16))]) hD hS hA [1] rfl
    refine va_calli (va_runV (As := []) (rest := []) ⟨hx, hb, hml, hown, hts⟩ (c_X15_thrown l dC dI xm fs_16 1 ht9 H.size) (cwV 0 hts gL_law_X15_thrown rfl rfl rfl (by decide +kernel) ⟨Nat.le_of_ble_eq_true rfl, Nat.le_of_ble_eq_true rfl⟩) (pcV hPc hDc hKc hN (ci := 20) (q0 := 0) rfl rfl) rfl rfl hl.1 rfl (lv_room (Nat.le_of_ble_eq_true rfl)) dL_law_2170 ⟨Nat.le_of_ble_eq_true rfl, Nat.le_of_ble_eq_true rfl⟩) hS (fun q _ h => hFc q h) hFc (fun r_19 u t H1 locs ht hvm hw_20 hB hz1 hk1 hS => ?_)
    obtain ⟨hP1, hK1, hD1⟩ := hB
    rw [ht] at hP1
    try dsimp only at hw_20
    obtain ⟨hP, hD⟩ := va_join (wr := [(ou, .inl (cL, 1, .inr (.inl of_2)))]) (w1 := []) hP hD [1] [0] rfl rfl (by decide) (by decide) hk1 hFc hP1 hD1
    generalize H1 = H at hP hS ⊢
    have hP : va_P (dC, dI) vwCl [(ou, .inl (cL, 1, .inr (.inl of_2)))] H := hP
    have hD : va_D A [(ou, .inl (cL, 1, .inr (.inl of_2)))] := hD
    obtain rfl : r_19 = 1 := hw_20
    refine lv_iload hx hb dL_law_2173 (lv_at hl 1 rfl) ?_
    refine lv_icmp_eq (tgt := 2180) hx hb dL_law_2175 (by decide) (fun c2175_21 => ?_) (fun c2175_21 => ?_)
    · refine lv_iload hx hb dL_law_2180 (lv_at hl 1 rfl) ?_
      refine lv_if_ne (tgt := 2197) hx hb dL_law_2182 (by decide) (fun c2182_22 => ?_) (fun c2182_22 => ?_)
      · refine lv_goto (tgt := 2778) hx hb dL_law_2197 (by decide) ?_
        refine W.widen (k := 600006) (n := 7302039) (Nat.le_of_ble_eq_true rfl) (Nat.le_of_ble_eq_true rfl) ?_
        exact law_end hx hb hr hml hX hbl hlocks hbA hAo hS (lv_sub hl [2, 7] rfl)
      · exact absurd c2182_22 (by decide)
    · exact (c2175_21 (by decide)).elim

set_option maxHeartbeats 8000000 in
set_option maxRecDepth 100000 in
/-- the law: law_29_tagRow -/
theorem law_29_tagRow {p : Program} {e : Env} {s : State} {m : MethodId} {below : List Frame} {meth : Method} {c : Code} {l : Launch} {b : Nat} {xs : Nat → Int32} (hx : p.tables.exec = Jvm.exec) (hb : c.code = cL_law) (hr : meth.sig.returnType = ret) (hml : c.maxLocals = 9) (hfl : l.stackTraces = false) (hown : s.vm.findClass RL = some m.cls) (hts : ∀ w ∈ wsL_law, w.before #[Value.ref b] s = true) (hX : va_X b 7 xs s s.heap) (hbl : b < s.heap.size) (hlocks : meth.locks = false) {A : Nat → Prop} (hbA : ¬ A b) (hAo : ∀ q, A q → s.heap.size ≤ q) (hA : ∀ q : Nat, s.heap.size ≤ q → A q) (dC : Nat → ClassId) (dI : Nat → Nat → Nat) (hN : nwA s) (e0 : Nat) (aK aV : Nat → Nat) (hZ : zX A s s.heap ∧ zM e0 aK aV A s s.heap) (ya ms ju rj tj ro rn tn rh th ca sa da xa wb z1 z2 jt z3 br z4 z5 z6 lk z7 z8 li bm l2 z9 bo h2 mm l1 z10 oo h1 ct cr cu cg cp co tg ts tr tk te fw fo fu xm ml cl fl rg tR ou od kn : Nat) (cI cM cS cL cD cB : ClassId) {H : Heap} {locs : List Loc} (hP : va_P (dC, dI) vwCl [(ya, .inr (16, [.ref ms, .int 0, .ref ju, .ref li, .ref ct, .ref tg, .ref fw])), (tg, .inr (14, [.int 0, .int 0, .ref ts, .ref tr, .ref tk, .ref te])), (tr, .inl (cI, 24, .inl (fun _ => 0))), (tk, .inl (cI, 4, .inl (fun _ => 0))), (ou, .inl (cL, 1, .inr (.inl (fun _ => 0)))), (xm, .inr (20, [.int 0, .int 0, .ref kn, .int 0, .int 0, .int 0, .ref ml, .ref cl, .ref rg, .ref tR, .ref (aK 0), .ref (aK 0), .ref fl, .int 0, .int 0, .int 0, .int 0, .int 0, .int 0, .int 0, .null])), (tR, .inl (cS, 4, .inr (.inr (.inr (.inr (va_up (va_up (va_up (va_up (fun _ => none) (Int32.toNatClampNeg 0) (some (aK 0))) (Int32.toNatClampNeg 1) (some (aK 0))) (Int32.toNatClampNeg 2) (some (aK 0))) (Int32.toNatClampNeg 3) (some (aK 0))))))))] H) (hD : va_D A [(ya, .inr (16, [.ref ms, .int 0, .ref ju, .ref li, .ref ct, .ref tg, .ref fw])), (tg, .inr (14, [.int 0, .int 0, .ref ts, .ref tr, .ref tk, .ref te])), (tr, .inl (cI, 24, .inl (fun _ => 0))), (tk, .inl (cI, 4, .inl (fun _ => 0))), (ou, .inl (cL, 1, .inr (.inl (fun _ => 0)))), (xm, .inr (20, [.int 0, .int 0, .ref kn, .int 0, .int 0, .int 0, .ref ml, .ref cl, .ref rg, .ref tR, .ref (aK 0), .ref (aK 0), .ref fl, .int 0, .int 0, .int 0, .int 0, .int 0, .int 0, .int 0, .null])), (tR, .inl (cS, 4, .inr (.inr (.inr (.inr (va_up (va_up (va_up (va_up (fun _ => none) (Int32.toNatClampNeg 0) (some (aK 0))) (Int32.toNatClampNeg 1) (some (aK 0))) (Int32.toNatClampNeg 2) (some (aK 0))) (Int32.toNatClampNeg 3) (some (aK 0))))))))]) (hK : va_K (dC, dI) vwCl [(cI, .int), (cS, .object "java/lang/String"), (cL, .long), (cB, .byte)] s) (hS : va_S A s.heap H locs) {ls : Array Slot} (hl : lv_has ls 9 [(0, .ref b), (1, .ref ya), (2, .ref xm), (3, .ref ou), (4, .ref od), (5, .int 0)]) : W p l e room_1 s m #[Value.ref b] below meth c H locs 200 60000 (lw_Z below #[Value.ref b] s) (F0 m 2200 ls []) := by
  obtain ⟨s1, hs1⟩ : ∃ z, z = xs ((0 : Int32) + 1).toNatClampNeg := ⟨_, rfl⟩
  obtain ⟨s2, hs2⟩ : ∃ z, z = xs ((0 : Int32) + 2).toNatClampNeg := ⟨_, rfl⟩
  obtain ⟨s3, hs3⟩ : ∃ z, z = xs ((0 : Int32) + 3).toNatClampNeg := ⟨_, rfl⟩
  obtain ⟨s4, hs4⟩ : ∃ z, z = xs ((0 : Int32) + 4).toNatClampNeg := ⟨_, rfl⟩
  obtain ⟨s5, hs5⟩ : ∃ z, z = xs ((0 : Int32) + 5).toNatClampNeg := ⟨_, rfl⟩
  obtain ⟨s6, hs6⟩ : ∃ z, z = xs ((0 : Int32) + 6).toNatClampNeg := ⟨_, rfl⟩
  obtain ⟨k1, hk1⟩ : ∃ z, z = (s1.toUInt32 % 65536).toInt32 := ⟨_, rfl⟩
  obtain ⟨k2, hk2⟩ : ∃ z, z = (s2.toUInt32 % 65536).toInt32 := ⟨_, rfl⟩
  obtain ⟨k3, hk3⟩ : ∃ z, z = (s3.toUInt32 % 65536).toInt32 := ⟨_, rfl⟩
  obtain ⟨k4, hk4⟩ : ∃ z, z = (s4.toUInt32 % 65536).toInt32 := ⟨_, rfl⟩
  obtain ⟨k5, hk5⟩ : ∃ z, z = (s5.toUInt32 % 65536).toInt32 := ⟨_, rfl⟩
  obtain ⟨k6, hk6⟩ : ∃ z, z = (s6.toUInt32 % 65536).toInt32 := ⟨_, rfl⟩
  refine lv_aload_n hx hb dL_law_2200 rfl (lv_at hl 1 rfl) ?_
  refine lv_aload_n hx hb dL_law_2201 rfl (lv_at hl 0 rfl) ?_
  refine lv_iload hx hb dL_law_2202 (lv_at hl 5 rfl) ?_
  refine lv_iconst (v := 1) hx hb dL_law_2204 (by decide) ?_
  refine lv_iadd hx hb dL_law_2205 ?_
  refine va_sld hx hb hX hbl hbA hS sx1 dL_law_2206 ?_
  refine lv_topi (fun x_1 ex_1 => ?_)
  obtain rfl : s1 = x_1 := (ex_1.trans hs1.symm).symm
  refine lv_i2c hx hb dL_law_2207 rfl ?_
  refine lv_topi (fun x_2 ex_2 => ?_)
  obtain rfl : k1 = x_2 := (ex_2.trans hk1.symm).symm
  refine lv_aload_n hx hb dL_law_2208 rfl (lv_at hl 0 rfl) ?_
  refine lv_iload hx hb dL_law_2209 (lv_at hl 5 rfl) ?_
  refine lv_iconst (v := 2) hx hb dL_law_2211 (by decide) ?_
  refine lv_iadd hx hb dL_law_2212 ?_
  refine va_sld hx hb hX hbl hbA hS sx2 dL_law_2213 ?_
  refine lv_topi (fun x_3 ex_3 => ?_)
  obtain rfl : s2 = x_3 := (ex_3.trans hs2.symm).symm
  refine lv_i2c hx hb dL_law_2214 rfl ?_
  refine lv_topi (fun x_4 ex_4 => ?_)
  obtain rfl : k2 = x_4 := (ex_4.trans hk2.symm).symm
  refine lv_aload_n hx hb dL_law_2215 rfl (lv_at hl 3 rfl) ?_
  have hPc := hP.sub (ws' := [(ya, .inr (16, [.ref ms, .int 0, .ref ju, .ref li, .ref ct, .ref tg, .ref fw])), (tg, .inr (14, [.int 0, .int 0, .ref ts, .ref tr, .ref tk, .ref te])), (tr, .inl (cI, 24, .inl (fun _ => 0))), (tk, .inl (cI, 4, .inl (fun _ => 0))), (ou, .inl (cL, 1, .inr (.inl (fun _ => 0))))]) [0, 1, 2, 3, 4] rfl
  have hDc := hD.sub (ws' := [(ya, .inr (16, [.ref ms, .int 0, .ref ju, .ref li, .ref ct, .ref tg, .ref fw])), (tg, .inr (14, [.int 0, .int 0, .ref ts, .ref tr, .ref tk, .ref te])), (tr, .inl (cI, 24, .inl (fun _ => 0))), (tk, .inl (cI, 4, .inl (fun _ => 0))), (ou, .inl (cL, 1, .inr (.inl (fun _ => 0))))]) [0, 1, 2, 3, 4] (by decide) rfl
  have hKc := hK.sub (tys' := [(cI, .int), (cL, .long)]) [0, 2] rfl
  have hFc := va_free (wc := [(ya, .inr (16, [.ref ms, .int 0, .ref ju, .ref li, .ref ct, .ref tg, .ref fw])), (tg, .inr (14, [.int 0, .int 0, .ref ts, .ref tr, .ref tk, .ref te])), (tr, .inl (cI, 24, .inl (fun _ => 0))), (tk, .inl (cI, 4, .inl (fun _ => 0))), (ou, .inl (cL, 1, .inr (.inl (fun _ => 0))))]) hD hS hA [0, 1, 2, 3, 4] rfl
  refine vx_calli (vx_runSX (As := [.ref ya, .int k1, .int k2, .ref ou]) (rest := []) ⟨hx, hb, hml, hown, hts⟩ (c_L_tagRow l hfl dC dI cI ya ms ju li ct tg fw ts tr tk te (fun _ => 0) k1 k2 cL ou (fun _ => 0) H.size) (vx_cwSW 4 hts gL_law_L_tagRow rfl rfl rfl (by decide +kernel) ⟨Nat.le_of_ble_eq_true rfl, Nat.le_of_ble_eq_true rfl⟩) (pcSz (zX_ok) hPc hDc hKc hN hZ.1 hS hFc) rfl rfl hl.1 rfl (lv_room (Nat.le_of_ble_eq_true rfl)) dL_law_2216 ⟨Nat.le_of_ble_eq_true rfl, Nat.le_of_ble_eq_true rfl⟩) hS (fun q _ h => hFc q h) hFc (fun q _ h => hFc q h) (fun E9 ce9 q9 u9 t9 H9 locs9 ht9 hvm9 hp9 hE9 hz9 hk9 hS9 hc9 hv9 hcl9 => hE9.elim) (fun r_6 u t H1 locs ht hvm hw_7 hB hz1 hk1 hS => ?_)
  obtain of_5 := u
  obtain ⟨hP1, hK1, hD1⟩ := hB
  rw [ht] at hP1
  try dsimp only at hw_7
  obtain ⟨hP, hD⟩ := va_join (wr := [(xm, .inr (20, [.int 0, .int 0, .ref kn, .int 0, .int 0, .int 0, .ref ml, .ref cl, .ref rg, .ref tR, .ref (aK 0), .ref (aK 0), .ref fl, .int 0, .int 0, .int 0, .int 0, .int 0, .int 0, .int 0, .null])), (tR, .inl (cS, 4, .inr (.inr (.inr (.inr (va_up (va_up (va_up (va_up (fun _ => none) (Int32.toNatClampNeg 0) (some (aK 0))) (Int32.toNatClampNeg 1) (some (aK 0))) (Int32.toNatClampNeg 2) (some (aK 0))) (Int32.toNatClampNeg 3) (some (aK 0))))))))]) (w1 := [(ou, .inl (cL, 1, .inr (.inl of_5)))]) hP hD [0, 1, 2, 3, 4] [5, 6] rfl rfl (by decide) (by decide) hk1 hFc hP1 hD1
  generalize H1 = H at hP hS ⊢
  have hP : va_P (dC, dI) vwCl [(xm, .inr (20, [.int 0, .int 0, .ref kn, .int 0, .int 0, .int 0, .ref ml, .ref cl, .ref rg, .ref tR, .ref (aK 0), .ref (aK 0), .ref fl, .int 0, .int 0, .int 0, .int 0, .int 0, .int 0, .int 0, .null])), (tR, .inl (cS, 4, .inr (.inr (.inr (.inr (va_up (va_up (va_up (va_up (fun _ => none) (Int32.toNatClampNeg 0) (some (aK 0))) (Int32.toNatClampNeg 1) (some (aK 0))) (Int32.toNatClampNeg 2) (some (aK 0))) (Int32.toNatClampNeg 3) (some (aK 0)))))))), (ou, .inl (cL, 1, .inr (.inl of_5)))] H := hP
  have hD : va_D A [(xm, .inr (20, [.int 0, .int 0, .ref kn, .int 0, .int 0, .int 0, .ref ml, .ref cl, .ref rg, .ref tR, .ref (aK 0), .ref (aK 0), .ref fl, .int 0, .int 0, .int 0, .int 0, .int 0, .int 0, .int 0, .null])), (tR, .inl (cS, 4, .inr (.inr (.inr (.inr (va_up (va_up (va_up (va_up (fun _ => none) (Int32.toNatClampNeg 0) (some (aK 0))) (Int32.toNatClampNeg 1) (some (aK 0))) (Int32.toNatClampNeg 2) (some (aK 0))) (Int32.toNatClampNeg 3) (some (aK 0)))))))), (ou, .inl (cL, 1, .inr (.inl of_5)))] := hD
  refine W.widen (k := 201) (n := 60006) (Nat.le_of_ble_eq_true rfl) (Nat.le_of_ble_eq_true rfl) ?_
  rcases hw_7 with ⟨hr0, hPP, hv0⟩ | ⟨hr0, hPP⟩
  · obtain rfl : r_6 = 0 := hr0
    refine lv_istore (lv' := [(6, .int 0), (0, .ref b), (1, .ref ya), (2, .ref xm), (3, .ref ou), (4, .ref od), (5, .int 0)]) hx hb dL_law_2219 hl (by decide) rfl (fun ls hl => ?_)
    refine lv_aload_n hx hb dL_law_2221 rfl (lv_at hl 3 rfl) ?_
    refine lv_aload_n hx hb dL_law_2222 rfl (lv_at hl 1 rfl) ?_
    refine lv_iload hx hb dL_law_2223 (lv_at hl 6 rfl) ?_
    refine lv_iconst (v := 1) hx hb dL_law_2225 (by decide) ?_
    refine lv_iadd hx hb dL_law_2226 ?_
    refine va_sld hx hb hX hbl hbA hS sx1 dL_law_2227 ?_
    refine lv_topi (fun x_8 ex_8 => ?_)
    obtain rfl : s1 = x_8 := (ex_8.trans hs1.symm).symm
    refine lv_i2c hx hb dL_law_2228 rfl ?_
    refine lv_topi (fun x_9 ex_9 => ?_)
    obtain rfl : k1 = x_9 := (ex_9.trans hk1.symm).symm
    refine lv_aload_n hx hb dL_law_2229 rfl (lv_at hl 1 rfl) ?_
    refine lv_iload hx hb dL_law_2230 (lv_at hl 6 rfl) ?_
    refine lv_iconst (v := 2) hx hb dL_law_2232 (by decide) ?_
    refine lv_iadd hx hb dL_law_2233 ?_
    refine va_sld hx hb hX hbl hbA hS sx2 dL_law_2234 ?_
    refine lv_topi (fun x_10 ex_10 => ?_)
    obtain rfl : s2 = x_10 := (ex_10.trans hs2.symm).symm
    refine lv_i2c hx hb dL_law_2235 rfl ?_
    refine lv_topi (fun x_11 ex_11 => ?_)
    obtain rfl : k2 = x_11 := (ex_11.trans hk2.symm).symm
    have hPc := hP.sub (ws' := [(xm, .inr (20, [.int 0, .int 0, .ref kn, .int 0, .int 0, .int 0, .ref ml, .ref cl, .ref rg, .ref tR, .ref (aK 0), .ref (aK 0), .ref fl, .int 0, .int 0, .int 0, .int 0, .int 0, .int 0, .int 0, .null])), (tR, .inl (cS, 4, .inr (.inr (.inr (.inr (va_up (va_up (va_up (va_up (fun _ => none) (Int32.toNatClampNeg 0) (some (aK 0))) (Int32.toNatClampNeg 1) (some (aK 0))) (Int32.toNatClampNeg 2) (some (aK 0))) (Int32.toNatClampNeg 3) (some (aK 0))))))))]) [0, 1] rfl
    have hDc := hD.sub (ws' := [(xm, .inr (20, [.int 0, .int 0, .ref kn, .int 0, .int 0, .int 0, .ref ml, .ref cl, .ref rg, .ref tR, .ref (aK 0), .ref (aK 0), .ref fl, .int 0, .int 0, .int 0, .int 0, .int 0, .int 0, .int 0, .null])), (tR, .inl (cS, 4, .inr (.inr (.inr (.inr (va_up (va_up (va_up (va_up (fun _ => none) (Int32.toNatClampNeg 0) (some (aK 0))) (Int32.toNatClampNeg 1) (some (aK 0))) (Int32.toNatClampNeg 2) (some (aK 0))) (Int32.toNatClampNeg 3) (some (aK 0))))))))]) [0, 1] (by decide) rfl
    have hKc := hK.sub (tys' := [(cS, .object "java/lang/String"), (cB, .byte)]) [1, 3] rfl
    have hFc := va_free (wc := [(xm, .inr (20, [.int 0, .int 0, .ref kn, .int 0, .int 0, .int 0, .ref ml, .ref cl, .ref rg, .ref tR, .ref (aK 0), .ref (aK 0), .ref fl, .int 0, .int 0, .int 0, .int 0, .int 0, .int 0, .int 0, .null])), (tR, .inl (cS, 4, .inr (.inr (.inr (.inr (va_up (va_up (va_up (va_up (fun _ => none) (Int32.toNatClampNeg 0) (some (aK 0))) (Int32.toNatClampNeg 1) (some (aK 0))) (Int32.toNatClampNeg 2) (some (aK 0))) (Int32.toNatClampNeg 3) (some (aK 0))))))))]) hD hS hA [0, 1] rfl
    refine va_calli (va_runV (As := [.int k1, .int k2]) (rest := []) ⟨hx, hb, hml, hown, hts⟩ (c_X15_tagRow l dC dI xm ml cl fl kn rg tR e0 aK aV cB cS k1 k2 H.size) (cwV 2 hts gL_law_X15_tagRow rfl rfl rfl (by decide +kernel) ⟨Nat.le_of_ble_eq_true rfl, Nat.le_of_ble_eq_true rfl⟩) (pcVz (zM_ok e0 aK aV) hPc hDc hKc hN hZ.2 hS hFc (ci := 20) (q0 := 0) rfl rfl) rfl rfl hl.1 rfl (lv_room (Nat.le_of_ble_eq_true rfl)) dL_law_2236 ⟨Nat.le_of_ble_eq_true rfl, Nat.le_of_ble_eq_true rfl⟩) hS (fun q _ h => hFc q h) hFc (fun r_13 u t H1 locs ht hvm hw_14 hB hz1 hk1 hS => ?_)
    obtain fs_12 := u
    obtain ⟨hP1, hK1, hD1⟩ := hB
    rw [ht] at hP1
    try dsimp only at hw_14
    obtain ⟨hP, hD⟩ := va_join (wr := [(ou, .inl (cL, 1, .inr (.inl of_5)))]) (w1 := [(xm, .inr (20, fs_12))]) hP hD [0, 1] [2] rfl rfl (by decide) (by decide) hk1 hFc hP1 hD1
    generalize H1 = H at hP hS ⊢
    have hP : va_P (dC, dI) vwCl [(ou, .inl (cL, 1, .inr (.inl of_5))), (xm, .inr (20, fs_12))] H := hP
    have hD : va_D A [(ou, .inl (cL, 1, .inr (.inl of_5))), (xm, .inr (20, fs_12))] := hD
    refine W.widen (k := 205) (n := 60031) (Nat.le_of_ble_eq_true rfl) (Nat.le_of_ble_eq_true rfl) ?_
    obtain ⟨ht9, hrv⟩ := hw_14.elim (fun h => h.2) (fun h => absurd hPP h.1)
    obtain rfl : r_13 = 1 := hrv
    refine lv_istore (lv' := [(7, .int 1), (6, .int 0), (0, .ref b), (1, .ref ya), (2, .ref xm), (3, .ref ou), (4, .ref od), (5, .int 0)]) hx hb dL_law_2239 hl (by decide) rfl (fun ls hl => ?_)
    refine lv_aload_n hx hb dL_law_2241 rfl (lv_at hl 4 rfl) ?_
    have hPc := hP.sub (ws' := [(xm, .inr (20, fs_12))]) [1] rfl
    have hDc := hD.sub (ws' := [(xm, .inr (20, fs_12))]) [1] (by decide) rfl
    have hKc := hK.sub (tys' := []) [] rfl
    have hFc := va_free (wc := [(xm, .inr (20, fs_12))]) hD hS hA [1] rfl
    refine va_calli (va_runV (As := []) (rest := []) ⟨hx, hb, hml, hown, hts⟩ (c_X15_thrown l dC dI xm fs_12 0 ht9 H.size) (cwV 0 hts gL_law_X15_thrown rfl rfl rfl (by decide +kernel) ⟨Nat.le_of_ble_eq_true rfl, Nat.le_of_ble_eq_true rfl⟩) (pcV hPc hDc hKc hN (ci := 20) (q0 := 0) rfl rfl) rfl rfl hl.1 rfl (lv_room (Nat.le_of_ble_eq_true rfl)) dL_law_2242 ⟨Nat.le_of_ble_eq_true rfl, Nat.le_of_ble_eq_true rfl⟩) hS (fun q _ h => hFc q h) hFc (fun r_15 u t H1 locs ht hvm hw_16 hB hz1 hk1 hS => ?_)
    obtain ⟨hP1, hK1, hD1⟩ := hB
    rw [ht] at hP1
    try dsimp only at hw_16
    obtain ⟨hP, hD⟩ := va_join (wr := [(ou, .inl (cL, 1, .inr (.inl of_5)))]) (w1 := []) hP hD [1] [0] rfl rfl (by decide) (by decide) hk1 hFc hP1 hD1
    generalize H1 = H at hP hS ⊢
    have hP : va_P (dC, dI) vwCl [(ou, .inl (cL, 1, .inr (.inl of_5)))] H := hP
    have hD : va_D A [(ou, .inl (cL, 1, .inr (.inl of_5)))] := hD
    obtain rfl : r_15 = 0 := hw_16
    refine lv_iload hx hb dL_law_2245 (lv_at hl 1 rfl) ?_
    refine lv_icmp_eq (tgt := 2252) hx hb dL_law_2247 (by decide) (fun c2247_17 => ?_) (fun c2247_17 => ?_)
    · refine lv_iload hx hb dL_law_2252 (lv_at hl 1 rfl) ?_
      refine lv_if_ne (tgt := 2269) hx hb dL_law_2254 (by decide) (fun c2254_18 => ?_) (fun c2254_18 => ?_)
      · exact (c2254_18 (by decide)).elim
      · refine lv_aload_n hx hb dL_law_2257 rfl (lv_at hl 5 rfl) ?_
        refine lv_iconst (v := 0) hx hb dL_law_2258 (by decide) ?_
        refine va_lald hx hb hK hP 0 2 rfl rfl (show vp_in (nI 0) 1 from vp_in_nI (by decide) (by decide)) dL_law_2259 ?_
        refine lv_topl (fun z_19 ez_19 => ?_)
        obtain rfl : z_19 = (1 : Int32).toInt64 := by rw [ez_19, show (0 : Int32).toNatClampNeg = 0 from by decide]; exact hv0
        refine lv_iload hx hb dL_law_2260 (lv_at hl 0 rfl) ?_
        refine lv_i2l hx hb dL_law_2262 rfl ?_
        refine W.lcmp hx hb dL_law_2263 ?_
        refine lv_if_eq (tgt := 2269) hx hb dL_law_2264 (by decide) (fun c2264_20 => ?_) (fun c2264_20 => ?_)
        · refine lv_goto (tgt := 2778) hx hb dL_law_2269 (by decide) ?_
          refine W.widen (k := 600006) (n := 7302039) (Nat.le_of_ble_eq_true rfl) (Nat.le_of_ble_eq_true rfl) ?_
          exact law_end hx hb hr hml hX hbl hlocks hbA hAo hS (lv_sub hl [2, 7] rfl)
        · exact absurd ((lg_cmp_eq _ _).mpr rfl) c2264_20
    · exact (c2247_17 (by decide)).elim
  · obtain rfl : r_6 = 1 := hr0
    refine lv_istore (lv' := [(6, .int 1), (0, .ref b), (1, .ref ya), (2, .ref xm), (3, .ref ou), (4, .ref od), (5, .int 0)]) hx hb dL_law_2219 hl (by decide) rfl (fun ls hl => ?_)
    refine lv_aload_n hx hb dL_law_2221 rfl (lv_at hl 3 rfl) ?_
    refine lv_aload_n hx hb dL_law_2222 rfl (lv_at hl 1 rfl) ?_
    refine lv_iload hx hb dL_law_2223 (lv_at hl 6 rfl) ?_
    refine lv_iconst (v := 1) hx hb dL_law_2225 (by decide) ?_
    refine lv_iadd hx hb dL_law_2226 ?_
    refine va_sld hx hb hX hbl hbA hS sx1 dL_law_2227 ?_
    refine lv_topi (fun x_21 ex_21 => ?_)
    obtain rfl : s1 = x_21 := (ex_21.trans hs1.symm).symm
    refine lv_i2c hx hb dL_law_2228 rfl ?_
    refine lv_topi (fun x_22 ex_22 => ?_)
    obtain rfl : k1 = x_22 := (ex_22.trans hk1.symm).symm
    refine lv_aload_n hx hb dL_law_2229 rfl (lv_at hl 1 rfl) ?_
    refine lv_iload hx hb dL_law_2230 (lv_at hl 6 rfl) ?_
    refine lv_iconst (v := 2) hx hb dL_law_2232 (by decide) ?_
    refine lv_iadd hx hb dL_law_2233 ?_
    refine va_sld hx hb hX hbl hbA hS sx2 dL_law_2234 ?_
    refine lv_topi (fun x_23 ex_23 => ?_)
    obtain rfl : s2 = x_23 := (ex_23.trans hs2.symm).symm
    refine lv_i2c hx hb dL_law_2235 rfl ?_
    refine lv_topi (fun x_24 ex_24 => ?_)
    obtain rfl : k2 = x_24 := (ex_24.trans hk2.symm).symm
    have hPc := hP.sub (ws' := [(xm, .inr (20, [.int 0, .int 0, .ref kn, .int 0, .int 0, .int 0, .ref ml, .ref cl, .ref rg, .ref tR, .ref (aK 0), .ref (aK 0), .ref fl, .int 0, .int 0, .int 0, .int 0, .int 0, .int 0, .int 0, .null])), (tR, .inl (cS, 4, .inr (.inr (.inr (.inr (va_up (va_up (va_up (va_up (fun _ => none) (Int32.toNatClampNeg 0) (some (aK 0))) (Int32.toNatClampNeg 1) (some (aK 0))) (Int32.toNatClampNeg 2) (some (aK 0))) (Int32.toNatClampNeg 3) (some (aK 0))))))))]) [0, 1] rfl
    have hDc := hD.sub (ws' := [(xm, .inr (20, [.int 0, .int 0, .ref kn, .int 0, .int 0, .int 0, .ref ml, .ref cl, .ref rg, .ref tR, .ref (aK 0), .ref (aK 0), .ref fl, .int 0, .int 0, .int 0, .int 0, .int 0, .int 0, .int 0, .null])), (tR, .inl (cS, 4, .inr (.inr (.inr (.inr (va_up (va_up (va_up (va_up (fun _ => none) (Int32.toNatClampNeg 0) (some (aK 0))) (Int32.toNatClampNeg 1) (some (aK 0))) (Int32.toNatClampNeg 2) (some (aK 0))) (Int32.toNatClampNeg 3) (some (aK 0))))))))]) [0, 1] (by decide) rfl
    have hKc := hK.sub (tys' := [(cS, .object "java/lang/String"), (cB, .byte)]) [1, 3] rfl
    have hFc := va_free (wc := [(xm, .inr (20, [.int 0, .int 0, .ref kn, .int 0, .int 0, .int 0, .ref ml, .ref cl, .ref rg, .ref tR, .ref (aK 0), .ref (aK 0), .ref fl, .int 0, .int 0, .int 0, .int 0, .int 0, .int 0, .int 0, .null])), (tR, .inl (cS, 4, .inr (.inr (.inr (.inr (va_up (va_up (va_up (va_up (fun _ => none) (Int32.toNatClampNeg 0) (some (aK 0))) (Int32.toNatClampNeg 1) (some (aK 0))) (Int32.toNatClampNeg 2) (some (aK 0))) (Int32.toNatClampNeg 3) (some (aK 0))))))))]) hD hS hA [0, 1] rfl
    refine va_calli (va_runV (As := [.int k1, .int k2]) (rest := []) ⟨hx, hb, hml, hown, hts⟩ (c_X15_tagRow l dC dI xm ml cl fl kn rg tR e0 aK aV cB cS k1 k2 H.size) (cwV 2 hts gL_law_X15_tagRow rfl rfl rfl (by decide +kernel) ⟨Nat.le_of_ble_eq_true rfl, Nat.le_of_ble_eq_true rfl⟩) (pcVz (zM_ok e0 aK aV) hPc hDc hKc hN hZ.2 hS hFc (ci := 20) (q0 := 0) rfl rfl) rfl rfl hl.1 rfl (lv_room (Nat.le_of_ble_eq_true rfl)) dL_law_2236 ⟨Nat.le_of_ble_eq_true rfl, Nat.le_of_ble_eq_true rfl⟩) hS (fun q _ h => hFc q h) hFc (fun r_26 u t H1 locs ht hvm hw_27 hB hz1 hk1 hS => ?_)
    obtain fs_25 := u
    obtain ⟨hP1, hK1, hD1⟩ := hB
    rw [ht] at hP1
    try dsimp only at hw_27
    obtain ⟨hP, hD⟩ := va_join (wr := [(ou, .inl (cL, 1, .inr (.inl of_5)))]) (w1 := [(xm, .inr (20, fs_25))]) hP hD [0, 1] [2] rfl rfl (by decide) (by decide) hk1 hFc hP1 hD1
    generalize H1 = H at hP hS ⊢
    have hP : va_P (dC, dI) vwCl [(ou, .inl (cL, 1, .inr (.inl of_5))), (xm, .inr (20, fs_25))] H := hP
    have hD : va_D A [(ou, .inl (cL, 1, .inr (.inl of_5))), (xm, .inr (20, fs_25))] := hD
    refine W.widen (k := 205) (n := 60031) (Nat.le_of_ble_eq_true rfl) (Nat.le_of_ble_eq_true rfl) ?_
    have ht9 := hw_27.elim (fun h => absurd h.1 hPP) (fun h => h.2)
    refine lv_istore (lv' := [(7, .int r_26), (6, .int 1), (0, .ref b), (1, .ref ya), (2, .ref xm), (3, .ref ou), (4, .ref od), (5, .int 0)]) hx hb dL_law_2239 hl (by decide) rfl (fun ls hl => ?_)
    refine lv_aload_n hx hb dL_law_2241 rfl (lv_at hl 4 rfl) ?_
    have hPc := hP.sub (ws' := [(xm, .inr (20, fs_25))]) [1] rfl
    have hDc := hD.sub (ws' := [(xm, .inr (20, fs_25))]) [1] (by decide) rfl
    have hKc := hK.sub (tys' := []) [] rfl
    have hFc := va_free (wc := [(xm, .inr (20, fs_25))]) hD hS hA [1] rfl
    refine va_calli (va_runV (As := []) (rest := []) ⟨hx, hb, hml, hown, hts⟩ (c_X15_thrown l dC dI xm fs_25 1 ht9 H.size) (cwV 0 hts gL_law_X15_thrown rfl rfl rfl (by decide +kernel) ⟨Nat.le_of_ble_eq_true rfl, Nat.le_of_ble_eq_true rfl⟩) (pcV hPc hDc hKc hN (ci := 20) (q0 := 0) rfl rfl) rfl rfl hl.1 rfl (lv_room (Nat.le_of_ble_eq_true rfl)) dL_law_2242 ⟨Nat.le_of_ble_eq_true rfl, Nat.le_of_ble_eq_true rfl⟩) hS (fun q _ h => hFc q h) hFc (fun r_28 u t H1 locs ht hvm hw_29 hB hz1 hk1 hS => ?_)
    obtain ⟨hP1, hK1, hD1⟩ := hB
    rw [ht] at hP1
    try dsimp only at hw_29
    obtain ⟨hP, hD⟩ := va_join (wr := [(ou, .inl (cL, 1, .inr (.inl of_5)))]) (w1 := []) hP hD [1] [0] rfl rfl (by decide) (by decide) hk1 hFc hP1 hD1
    generalize H1 = H at hP hS ⊢
    have hP : va_P (dC, dI) vwCl [(ou, .inl (cL, 1, .inr (.inl of_5)))] H := hP
    have hD : va_D A [(ou, .inl (cL, 1, .inr (.inl of_5)))] := hD
    obtain rfl : r_28 = 1 := hw_29
    refine lv_iload hx hb dL_law_2245 (lv_at hl 1 rfl) ?_
    refine lv_icmp_eq (tgt := 2252) hx hb dL_law_2247 (by decide) (fun c2247_30 => ?_) (fun c2247_30 => ?_)
    · refine lv_iload hx hb dL_law_2252 (lv_at hl 1 rfl) ?_
      refine lv_if_ne (tgt := 2269) hx hb dL_law_2254 (by decide) (fun c2254_31 => ?_) (fun c2254_31 => ?_)
      · refine lv_goto (tgt := 2778) hx hb dL_law_2269 (by decide) ?_
        refine W.widen (k := 600006) (n := 7302039) (Nat.le_of_ble_eq_true rfl) (Nat.le_of_ble_eq_true rfl) ?_
        exact law_end hx hb hr hml hX hbl hlocks hbA hAo hS (lv_sub hl [2, 7] rfl)
      · exact absurd c2254_31 (by decide)
    · exact (c2247_30 (by decide)).elim

set_option maxHeartbeats 8000000 in
set_option maxRecDepth 100000 in
/-- the law: law_30_tagStart -/
theorem law_30_tagStart {p : Program} {e : Env} {s : State} {m : MethodId} {below : List Frame} {meth : Method} {c : Code} {l : Launch} {b : Nat} {xs : Nat → Int32} (hx : p.tables.exec = Jvm.exec) (hb : c.code = cL_law) (hr : meth.sig.returnType = ret) (hml : c.maxLocals = 9) (hfl : l.stackTraces = false) (hown : s.vm.findClass RL = some m.cls) (hts : ∀ w ∈ wsL_law, w.before #[Value.ref b] s = true) (hX : va_X b 7 xs s s.heap) (hbl : b < s.heap.size) (hlocks : meth.locks = false) {A : Nat → Prop} (hbA : ¬ A b) (hAo : ∀ q, A q → s.heap.size ≤ q) (hA : ∀ q : Nat, s.heap.size ≤ q → A q) (dC : Nat → ClassId) (dI : Nat → Nat → Nat) (hN : nwA s) (e0 : Nat) (aK aV : Nat → Nat) (hZ : zX A s s.heap ∧ zM e0 aK aV A s s.heap) (ya ms ju rj tj ro rn tn rh th ca sa da xa wb z1 z2 jt z3 br z4 z5 z6 lk z7 z8 li bm l2 z9 bo h2 mm l1 z10 oo h1 ct cr cu cg cp co tg ts tr tk te fw fo fu xm ml cl fl rg tR ou od kn : Nat) (cI cM cS cL cD cB : ClassId) {H : Heap} {locs : List Loc} (hP : va_P (dC, dI) vwCl [(ya, .inr (16, [.ref ms, .int 0, .ref ju, .ref li, .ref ct, .ref tg, .ref fw])), (tg, .inr (14, [.int 0, .int 0, .ref ts, .ref tr, .ref tk, .ref te])), (ts, .inl (cI, 40, .inl (fun _ => 0))), (ou, .inl (cL, 1, .inr (.inl (fun _ => 0)))), (xm, .inr (20, [.int 0, .int 0, .ref kn, .int 0, .int 0, .int 0, .ref ml, .ref cl, .ref rg, .ref tR, .ref (aK 0), .ref (aK 0), .ref fl, .int 0, .int 0, .int 0, .int 0, .int 0, .int 0, .int 0, .null]))] H) (hD : va_D A [(ya, .inr (16, [.ref ms, .int 0, .ref ju, .ref li, .ref ct, .ref tg, .ref fw])), (tg, .inr (14, [.int 0, .int 0, .ref ts, .ref tr, .ref tk, .ref te])), (ts, .inl (cI, 40, .inl (fun _ => 0))), (ou, .inl (cL, 1, .inr (.inl (fun _ => 0)))), (xm, .inr (20, [.int 0, .int 0, .ref kn, .int 0, .int 0, .int 0, .ref ml, .ref cl, .ref rg, .ref tR, .ref (aK 0), .ref (aK 0), .ref fl, .int 0, .int 0, .int 0, .int 0, .int 0, .int 0, .int 0, .null]))]) (hK : va_K (dC, dI) vwCl [(cI, .int), (cL, .long), (cB, .byte)] s) (hS : va_S A s.heap H locs) {ls : Array Slot} (hl : lv_has ls 9 [(0, .ref b), (1, .ref ya), (2, .ref xm), (3, .ref ou), (4, .ref od), (5, .int 0)]) : W p l e room_1 s m #[Value.ref b] below meth c H locs 200 60000 (lw_Z below #[Value.ref b] s) (F0 m 2272 ls []) := by
  obtain ⟨s1, hs1⟩ : ∃ z, z = xs ((0 : Int32) + 1).toNatClampNeg := ⟨_, rfl⟩
  obtain ⟨s2, hs2⟩ : ∃ z, z = xs ((0 : Int32) + 2).toNatClampNeg := ⟨_, rfl⟩
  obtain ⟨s3, hs3⟩ : ∃ z, z = xs ((0 : Int32) + 3).toNatClampNeg := ⟨_, rfl⟩
  obtain ⟨s4, hs4⟩ : ∃ z, z = xs ((0 : Int32) + 4).toNatClampNeg := ⟨_, rfl⟩
  obtain ⟨s5, hs5⟩ : ∃ z, z = xs ((0 : Int32) + 5).toNatClampNeg := ⟨_, rfl⟩
  obtain ⟨s6, hs6⟩ : ∃ z, z = xs ((0 : Int32) + 6).toNatClampNeg := ⟨_, rfl⟩
  obtain ⟨k1, hk1⟩ : ∃ z, z = (s1.toUInt32 % 65536).toInt32 := ⟨_, rfl⟩
  obtain ⟨k2, hk2⟩ : ∃ z, z = (s2.toUInt32 % 65536).toInt32 := ⟨_, rfl⟩
  obtain ⟨k3, hk3⟩ : ∃ z, z = (s3.toUInt32 % 65536).toInt32 := ⟨_, rfl⟩
  obtain ⟨k4, hk4⟩ : ∃ z, z = (s4.toUInt32 % 65536).toInt32 := ⟨_, rfl⟩
  obtain ⟨k5, hk5⟩ : ∃ z, z = (s5.toUInt32 % 65536).toInt32 := ⟨_, rfl⟩
  obtain ⟨k6, hk6⟩ : ∃ z, z = (s6.toUInt32 % 65536).toInt32 := ⟨_, rfl⟩
  refine lv_aload_n hx hb dL_law_2272 rfl (lv_at hl 1 rfl) ?_
  refine lv_aload_n hx hb dL_law_2273 rfl (lv_at hl 0 rfl) ?_
  refine lv_iload hx hb dL_law_2274 (lv_at hl 5 rfl) ?_
  refine lv_iconst (v := 1) hx hb dL_law_2276 (by decide) ?_
  refine lv_iadd hx hb dL_law_2277 ?_
  refine va_sld hx hb hX hbl hbA hS sx1 dL_law_2278 ?_
  refine lv_topi (fun x_1 ex_1 => ?_)
  obtain rfl : s1 = x_1 := (ex_1.trans hs1.symm).symm
  refine lv_i2c hx hb dL_law_2279 rfl ?_
  refine lv_topi (fun x_2 ex_2 => ?_)
  obtain rfl : k1 = x_2 := (ex_2.trans hk1.symm).symm
  refine lv_aload_n hx hb dL_law_2280 rfl (lv_at hl 3 rfl) ?_
  have hPc := hP.sub (ws' := [(ya, .inr (16, [.ref ms, .int 0, .ref ju, .ref li, .ref ct, .ref tg, .ref fw])), (tg, .inr (14, [.int 0, .int 0, .ref ts, .ref tr, .ref tk, .ref te])), (ts, .inl (cI, 40, .inl (fun _ => 0))), (ou, .inl (cL, 1, .inr (.inl (fun _ => 0))))]) [0, 1, 2, 3] rfl
  have hDc := hD.sub (ws' := [(ya, .inr (16, [.ref ms, .int 0, .ref ju, .ref li, .ref ct, .ref tg, .ref fw])), (tg, .inr (14, [.int 0, .int 0, .ref ts, .ref tr, .ref tk, .ref te])), (ts, .inl (cI, 40, .inl (fun _ => 0))), (ou, .inl (cL, 1, .inr (.inl (fun _ => 0))))]) [0, 1, 2, 3] (by decide) rfl
  have hKc := hK.sub (tys' := [(cI, .int), (cL, .long)]) [0, 1] rfl
  have hFc := va_free (wc := [(ya, .inr (16, [.ref ms, .int 0, .ref ju, .ref li, .ref ct, .ref tg, .ref fw])), (tg, .inr (14, [.int 0, .int 0, .ref ts, .ref tr, .ref tk, .ref te])), (ts, .inl (cI, 40, .inl (fun _ => 0))), (ou, .inl (cL, 1, .inr (.inl (fun _ => 0))))]) hD hS hA [0, 1, 2, 3] rfl
  refine vx_calli (vx_runSX (As := [.ref ya, .int k1, .ref ou]) (rest := []) ⟨hx, hb, hml, hown, hts⟩ (c_L_tagStart l hfl dC dI cI ya ms ju li ct tg fw ts tr tk te (fun _ => 0) k1 cL ou (fun _ => 0) H.size) (vx_cwSW 3 hts gL_law_L_tagStart rfl rfl rfl (by decide +kernel) ⟨Nat.le_of_ble_eq_true rfl, Nat.le_of_ble_eq_true rfl⟩) (pcSz (zX_ok) hPc hDc hKc hN hZ.1 hS hFc) rfl rfl hl.1 rfl (lv_room (Nat.le_of_ble_eq_true rfl)) dL_law_2281 ⟨Nat.le_of_ble_eq_true rfl, Nat.le_of_ble_eq_true rfl⟩) hS (fun q _ h => hFc q h) hFc (fun q _ h => hFc q h) (fun E9 ce9 q9 u9 t9 H9 locs9 ht9 hvm9 hp9 hE9 hz9 hk9 hS9 hc9 hv9 hcl9 => hE9.elim) (fun r_4 u t H1 locs ht hvm hw_5 hB hz1 hk1 hS => ?_)
  obtain of_3 := u
  obtain ⟨hP1, hK1, hD1⟩ := hB
  rw [ht] at hP1
  try dsimp only at hw_5
  obtain ⟨hP, hD⟩ := va_join (wr := [(xm, .inr (20, [.int 0, .int 0, .ref kn, .int 0, .int 0, .int 0, .ref ml, .ref cl, .ref rg, .ref tR, .ref (aK 0), .ref (aK 0), .ref fl, .int 0, .int 0, .int 0, .int 0, .int 0, .int 0, .int 0, .null]))]) (w1 := [(ou, .inl (cL, 1, .inr (.inl of_3)))]) hP hD [0, 1, 2, 3] [4] rfl rfl (by decide) (by decide) hk1 hFc hP1 hD1
  generalize H1 = H at hP hS ⊢
  have hP : va_P (dC, dI) vwCl [(xm, .inr (20, [.int 0, .int 0, .ref kn, .int 0, .int 0, .int 0, .ref ml, .ref cl, .ref rg, .ref tR, .ref (aK 0), .ref (aK 0), .ref fl, .int 0, .int 0, .int 0, .int 0, .int 0, .int 0, .int 0, .null])), (ou, .inl (cL, 1, .inr (.inl of_3)))] H := hP
  have hD : va_D A [(xm, .inr (20, [.int 0, .int 0, .ref kn, .int 0, .int 0, .int 0, .ref ml, .ref cl, .ref rg, .ref tR, .ref (aK 0), .ref (aK 0), .ref fl, .int 0, .int 0, .int 0, .int 0, .int 0, .int 0, .int 0, .null])), (ou, .inl (cL, 1, .inr (.inl of_3)))] := hD
  refine W.widen (k := 201) (n := 60006) (Nat.le_of_ble_eq_true rfl) (Nat.le_of_ble_eq_true rfl) ?_
  rcases hw_5 with ⟨hr0, hPP, hv0⟩ | ⟨hr0, hPP⟩
  · obtain rfl : r_4 = 0 := hr0
    refine lv_istore (lv' := [(6, .int 0), (0, .ref b), (1, .ref ya), (2, .ref xm), (3, .ref ou), (4, .ref od), (5, .int 0)]) hx hb dL_law_2284 hl (by decide) rfl (fun ls hl => ?_)
    refine lv_aload_n hx hb dL_law_2286 rfl (lv_at hl 3 rfl) ?_
    refine lv_aload_n hx hb dL_law_2287 rfl (lv_at hl 1 rfl) ?_
    refine lv_iload hx hb dL_law_2288 (lv_at hl 6 rfl) ?_
    refine lv_iconst (v := 1) hx hb dL_law_2290 (by decide) ?_
    refine lv_iadd hx hb dL_law_2291 ?_
    refine va_sld hx hb hX hbl hbA hS sx1 dL_law_2292 ?_
    refine lv_topi (fun x_6 ex_6 => ?_)
    obtain rfl : s1 = x_6 := (ex_6.trans hs1.symm).symm
    refine lv_i2c hx hb dL_law_2293 rfl ?_
    refine lv_topi (fun x_7 ex_7 => ?_)
    obtain rfl : k1 = x_7 := (ex_7.trans hk1.symm).symm
    have hPc := hP.sub (ws' := [(xm, .inr (20, [.int 0, .int 0, .ref kn, .int 0, .int 0, .int 0, .ref ml, .ref cl, .ref rg, .ref tR, .ref (aK 0), .ref (aK 0), .ref fl, .int 0, .int 0, .int 0, .int 0, .int 0, .int 0, .int 0, .null]))]) [0] rfl
    have hDc := hD.sub (ws' := [(xm, .inr (20, [.int 0, .int 0, .ref kn, .int 0, .int 0, .int 0, .ref ml, .ref cl, .ref rg, .ref tR, .ref (aK 0), .ref (aK 0), .ref fl, .int 0, .int 0, .int 0, .int 0, .int 0, .int 0, .int 0, .null]))]) [0] (by decide) rfl
    have hKc := hK.sub (tys' := [(cB, .byte)]) [2] rfl
    have hFc := va_free (wc := [(xm, .inr (20, [.int 0, .int 0, .ref kn, .int 0, .int 0, .int 0, .ref ml, .ref cl, .ref rg, .ref tR, .ref (aK 0), .ref (aK 0), .ref fl, .int 0, .int 0, .int 0, .int 0, .int 0, .int 0, .int 0, .null]))]) hD hS hA [0] rfl
    refine va_calli (va_runV (As := [.int k1]) (rest := []) ⟨hx, hb, hml, hown, hts⟩ (c_X15_tagStart l dC dI xm ml cl fl kn rg tR e0 aK aV cB k1 H.size) (cwV 1 hts gL_law_X15_tagStart rfl rfl rfl (by decide +kernel) ⟨Nat.le_of_ble_eq_true rfl, Nat.le_of_ble_eq_true rfl⟩) (pcVz (zM_ok e0 aK aV) hPc hDc hKc hN hZ.2 hS hFc (ci := 20) (q0 := 0) rfl rfl) rfl rfl hl.1 rfl (lv_room (Nat.le_of_ble_eq_true rfl)) dL_law_2294 ⟨Nat.le_of_ble_eq_true rfl, Nat.le_of_ble_eq_true rfl⟩) hS (fun q _ h => hFc q h) hFc (fun r_9 u t H1 locs ht hvm hw_10 hB hz1 hk1 hS => ?_)
    obtain fs_8 := u
    obtain ⟨hP1, hK1, hD1⟩ := hB
    rw [ht] at hP1
    try dsimp only at hw_10
    obtain ⟨hP, hD⟩ := va_join (wr := [(ou, .inl (cL, 1, .inr (.inl of_3)))]) (w1 := [(xm, .inr (20, fs_8))]) hP hD [0] [1] rfl rfl (by decide) (by decide) hk1 hFc hP1 hD1
    generalize H1 = H at hP hS ⊢
    have hP : va_P (dC, dI) vwCl [(ou, .inl (cL, 1, .inr (.inl of_3))), (xm, .inr (20, fs_8))] H := hP
    have hD : va_D A [(ou, .inl (cL, 1, .inr (.inl of_3))), (xm, .inr (20, fs_8))] := hD
    refine W.widen (k := 209) (n := 60056) (Nat.le_of_ble_eq_true rfl) (Nat.le_of_ble_eq_true rfl) ?_
    obtain ⟨ht9, hrv⟩ := hw_10.elim (fun h => h.2) (fun h => absurd hPP h.1)
    obtain rfl : r_9 = 1 := hrv
    refine lv_istore (lv' := [(7, .int 1), (6, .int 0), (0, .ref b), (1, .ref ya), (2, .ref xm), (3, .ref ou), (4, .ref od), (5, .int 0)]) hx hb dL_law_2297 hl (by decide) rfl (fun ls hl => ?_)
    refine lv_aload_n hx hb dL_law_2299 rfl (lv_at hl 4 rfl) ?_
    have hPc := hP.sub (ws' := [(xm, .inr (20, fs_8))]) [1] rfl
    have hDc := hD.sub (ws' := [(xm, .inr (20, fs_8))]) [1] (by decide) rfl
    have hKc := hK.sub (tys' := []) [] rfl
    have hFc := va_free (wc := [(xm, .inr (20, fs_8))]) hD hS hA [1] rfl
    refine va_calli (va_runV (As := []) (rest := []) ⟨hx, hb, hml, hown, hts⟩ (c_X15_thrown l dC dI xm fs_8 0 ht9 H.size) (cwV 0 hts gL_law_X15_thrown rfl rfl rfl (by decide +kernel) ⟨Nat.le_of_ble_eq_true rfl, Nat.le_of_ble_eq_true rfl⟩) (pcV hPc hDc hKc hN (ci := 20) (q0 := 0) rfl rfl) rfl rfl hl.1 rfl (lv_room (Nat.le_of_ble_eq_true rfl)) dL_law_2300 ⟨Nat.le_of_ble_eq_true rfl, Nat.le_of_ble_eq_true rfl⟩) hS (fun q _ h => hFc q h) hFc (fun r_11 u t H1 locs ht hvm hw_12 hB hz1 hk1 hS => ?_)
    obtain ⟨hP1, hK1, hD1⟩ := hB
    rw [ht] at hP1
    try dsimp only at hw_12
    obtain ⟨hP, hD⟩ := va_join (wr := [(ou, .inl (cL, 1, .inr (.inl of_3)))]) (w1 := []) hP hD [1] [0] rfl rfl (by decide) (by decide) hk1 hFc hP1 hD1
    generalize H1 = H at hP hS ⊢
    have hP : va_P (dC, dI) vwCl [(ou, .inl (cL, 1, .inr (.inl of_3)))] H := hP
    have hD : va_D A [(ou, .inl (cL, 1, .inr (.inl of_3)))] := hD
    obtain rfl : r_11 = 0 := hw_12
    refine lv_iload hx hb dL_law_2303 (lv_at hl 1 rfl) ?_
    refine lv_icmp_eq (tgt := 2310) hx hb dL_law_2305 (by decide) (fun c2305_13 => ?_) (fun c2305_13 => ?_)
    · refine lv_iload hx hb dL_law_2310 (lv_at hl 1 rfl) ?_
      refine lv_if_ne (tgt := 2327) hx hb dL_law_2312 (by decide) (fun c2312_14 => ?_) (fun c2312_14 => ?_)
      · exact (c2312_14 (by decide)).elim
      · refine lv_aload_n hx hb dL_law_2315 rfl (lv_at hl 5 rfl) ?_
        refine lv_iconst (v := 0) hx hb dL_law_2316 (by decide) ?_
        refine va_lald hx hb hK hP 0 1 rfl rfl (show vp_in (nI 0) 1 from vp_in_nI (by decide) (by decide)) dL_law_2317 ?_
        refine lv_topl (fun z_15 ez_15 => ?_)
        obtain rfl : z_15 = (1 : Int32).toInt64 := by rw [ez_15, show (0 : Int32).toNatClampNeg = 0 from by decide]; exact hv0
        refine lv_iload hx hb dL_law_2318 (lv_at hl 0 rfl) ?_
        refine lv_i2l hx hb dL_law_2320 rfl ?_
        refine W.lcmp hx hb dL_law_2321 ?_
        refine lv_if_eq (tgt := 2327) hx hb dL_law_2322 (by decide) (fun c2322_16 => ?_) (fun c2322_16 => ?_)
        · refine lv_goto (tgt := 2778) hx hb dL_law_2327 (by decide) ?_
          refine W.widen (k := 600006) (n := 7302039) (Nat.le_of_ble_eq_true rfl) (Nat.le_of_ble_eq_true rfl) ?_
          exact law_end hx hb hr hml hX hbl hlocks hbA hAo hS (lv_sub hl [2, 7] rfl)
        · exact absurd ((lg_cmp_eq _ _).mpr rfl) c2322_16
    · exact (c2305_13 (by decide)).elim
  · obtain rfl : r_4 = 1 := hr0
    refine lv_istore (lv' := [(6, .int 1), (0, .ref b), (1, .ref ya), (2, .ref xm), (3, .ref ou), (4, .ref od), (5, .int 0)]) hx hb dL_law_2284 hl (by decide) rfl (fun ls hl => ?_)
    refine lv_aload_n hx hb dL_law_2286 rfl (lv_at hl 3 rfl) ?_
    refine lv_aload_n hx hb dL_law_2287 rfl (lv_at hl 1 rfl) ?_
    refine lv_iload hx hb dL_law_2288 (lv_at hl 6 rfl) ?_
    refine lv_iconst (v := 1) hx hb dL_law_2290 (by decide) ?_
    refine lv_iadd hx hb dL_law_2291 ?_
    refine va_sld hx hb hX hbl hbA hS sx1 dL_law_2292 ?_
    refine lv_topi (fun x_17 ex_17 => ?_)
    obtain rfl : s1 = x_17 := (ex_17.trans hs1.symm).symm
    refine lv_i2c hx hb dL_law_2293 rfl ?_
    refine lv_topi (fun x_18 ex_18 => ?_)
    obtain rfl : k1 = x_18 := (ex_18.trans hk1.symm).symm
    have hPc := hP.sub (ws' := [(xm, .inr (20, [.int 0, .int 0, .ref kn, .int 0, .int 0, .int 0, .ref ml, .ref cl, .ref rg, .ref tR, .ref (aK 0), .ref (aK 0), .ref fl, .int 0, .int 0, .int 0, .int 0, .int 0, .int 0, .int 0, .null]))]) [0] rfl
    have hDc := hD.sub (ws' := [(xm, .inr (20, [.int 0, .int 0, .ref kn, .int 0, .int 0, .int 0, .ref ml, .ref cl, .ref rg, .ref tR, .ref (aK 0), .ref (aK 0), .ref fl, .int 0, .int 0, .int 0, .int 0, .int 0, .int 0, .int 0, .null]))]) [0] (by decide) rfl
    have hKc := hK.sub (tys' := [(cB, .byte)]) [2] rfl
    have hFc := va_free (wc := [(xm, .inr (20, [.int 0, .int 0, .ref kn, .int 0, .int 0, .int 0, .ref ml, .ref cl, .ref rg, .ref tR, .ref (aK 0), .ref (aK 0), .ref fl, .int 0, .int 0, .int 0, .int 0, .int 0, .int 0, .int 0, .null]))]) hD hS hA [0] rfl
    refine va_calli (va_runV (As := [.int k1]) (rest := []) ⟨hx, hb, hml, hown, hts⟩ (c_X15_tagStart l dC dI xm ml cl fl kn rg tR e0 aK aV cB k1 H.size) (cwV 1 hts gL_law_X15_tagStart rfl rfl rfl (by decide +kernel) ⟨Nat.le_of_ble_eq_true rfl, Nat.le_of_ble_eq_true rfl⟩) (pcVz (zM_ok e0 aK aV) hPc hDc hKc hN hZ.2 hS hFc (ci := 20) (q0 := 0) rfl rfl) rfl rfl hl.1 rfl (lv_room (Nat.le_of_ble_eq_true rfl)) dL_law_2294 ⟨Nat.le_of_ble_eq_true rfl, Nat.le_of_ble_eq_true rfl⟩) hS (fun q _ h => hFc q h) hFc (fun r_20 u t H1 locs ht hvm hw_21 hB hz1 hk1 hS => ?_)
    obtain fs_19 := u
    obtain ⟨hP1, hK1, hD1⟩ := hB
    rw [ht] at hP1
    try dsimp only at hw_21
    obtain ⟨hP, hD⟩ := va_join (wr := [(ou, .inl (cL, 1, .inr (.inl of_3)))]) (w1 := [(xm, .inr (20, fs_19))]) hP hD [0] [1] rfl rfl (by decide) (by decide) hk1 hFc hP1 hD1
    generalize H1 = H at hP hS ⊢
    have hP : va_P (dC, dI) vwCl [(ou, .inl (cL, 1, .inr (.inl of_3))), (xm, .inr (20, fs_19))] H := hP
    have hD : va_D A [(ou, .inl (cL, 1, .inr (.inl of_3))), (xm, .inr (20, fs_19))] := hD
    refine W.widen (k := 209) (n := 60056) (Nat.le_of_ble_eq_true rfl) (Nat.le_of_ble_eq_true rfl) ?_
    have ht9 := hw_21.elim (fun h => absurd h.1 hPP) (fun h => h.2)
    refine lv_istore (lv' := [(7, .int r_20), (6, .int 1), (0, .ref b), (1, .ref ya), (2, .ref xm), (3, .ref ou), (4, .ref od), (5, .int 0)]) hx hb dL_law_2297 hl (by decide) rfl (fun ls hl => ?_)
    refine lv_aload_n hx hb dL_law_2299 rfl (lv_at hl 4 rfl) ?_
    have hPc := hP.sub (ws' := [(xm, .inr (20, fs_19))]) [1] rfl
    have hDc := hD.sub (ws' := [(xm, .inr (20, fs_19))]) [1] (by decide) rfl
    have hKc := hK.sub (tys' := []) [] rfl
    have hFc := va_free (wc := [(xm, .inr (20, fs_19))]) hD hS hA [1] rfl
    refine va_calli (va_runV (As := []) (rest := []) ⟨hx, hb, hml, hown, hts⟩ (c_X15_thrown l dC dI xm fs_19 1 ht9 H.size) (cwV 0 hts gL_law_X15_thrown rfl rfl rfl (by decide +kernel) ⟨Nat.le_of_ble_eq_true rfl, Nat.le_of_ble_eq_true rfl⟩) (pcV hPc hDc hKc hN (ci := 20) (q0 := 0) rfl rfl) rfl rfl hl.1 rfl (lv_room (Nat.le_of_ble_eq_true rfl)) dL_law_2300 ⟨Nat.le_of_ble_eq_true rfl, Nat.le_of_ble_eq_true rfl⟩) hS (fun q _ h => hFc q h) hFc (fun r_22 u t H1 locs ht hvm hw_23 hB hz1 hk1 hS => ?_)
    obtain ⟨hP1, hK1, hD1⟩ := hB
    rw [ht] at hP1
    try dsimp only at hw_23
    obtain ⟨hP, hD⟩ := va_join (wr := [(ou, .inl (cL, 1, .inr (.inl of_3)))]) (w1 := []) hP hD [1] [0] rfl rfl (by decide) (by decide) hk1 hFc hP1 hD1
    generalize H1 = H at hP hS ⊢
    have hP : va_P (dC, dI) vwCl [(ou, .inl (cL, 1, .inr (.inl of_3)))] H := hP
    have hD : va_D A [(ou, .inl (cL, 1, .inr (.inl of_3)))] := hD
    obtain rfl : r_22 = 1 := hw_23
    refine lv_iload hx hb dL_law_2303 (lv_at hl 1 rfl) ?_
    refine lv_icmp_eq (tgt := 2310) hx hb dL_law_2305 (by decide) (fun c2305_24 => ?_) (fun c2305_24 => ?_)
    · refine lv_iload hx hb dL_law_2310 (lv_at hl 1 rfl) ?_
      refine lv_if_ne (tgt := 2327) hx hb dL_law_2312 (by decide) (fun c2312_25 => ?_) (fun c2312_25 => ?_)
      · refine lv_goto (tgt := 2778) hx hb dL_law_2327 (by decide) ?_
        refine W.widen (k := 600006) (n := 7302039) (Nat.le_of_ble_eq_true rfl) (Nat.le_of_ble_eq_true rfl) ?_
        exact law_end hx hb hr hml hX hbl hlocks hbA hAo hS (lv_sub hl [2, 7] rfl)
      · exact absurd c2312_25 (by decide)
    · exact (c2305_24 (by decide)).elim

set_option maxHeartbeats 8000000 in
set_option maxRecDepth 100000 in
/-- the law: law_31_untag -/
theorem law_31_untag {p : Program} {e : Env} {s : State} {m : MethodId} {below : List Frame} {meth : Method} {c : Code} {l : Launch} {b : Nat} {xs : Nat → Int32} (hx : p.tables.exec = Jvm.exec) (hb : c.code = cL_law) (hr : meth.sig.returnType = ret) (hml : c.maxLocals = 9) (hfl : l.stackTraces = false) (hown : s.vm.findClass RL = some m.cls) (hts : ∀ w ∈ wsL_law, w.before #[Value.ref b] s = true) (hX : va_X b 7 xs s s.heap) (hbl : b < s.heap.size) (hlocks : meth.locks = false) {A : Nat → Prop} (hbA : ¬ A b) (hAo : ∀ q, A q → s.heap.size ≤ q) (hA : ∀ q : Nat, s.heap.size ≤ q → A q) (dC : Nat → ClassId) (dI : Nat → Nat → Nat) (hN : nwA s) (e0 : Nat) (aK aV : Nat → Nat) (hZ : zX A s s.heap ∧ zM e0 aK aV A s s.heap) (ya ms ju rj tj ro rn tn rh th ca sa da xa wb z1 z2 jt z3 br z4 z5 z6 lk z7 z8 li bm l2 z9 bo h2 mm l1 z10 oo h1 ct cr cu cg cp co tg ts tr tk te fw fo fu xm ml cl fl rg tR ou od kn : Nat) (cI cM cS cL cD cB : ClassId) {H : Heap} {locs : List Loc} (hP : va_P (dC, dI) vwCl [(ya, .inr (16, [.ref ms, .int 0, .ref ju, .ref li, .ref ct, .ref tg, .ref fw])), (tg, .inr (14, [.int 0, .int 0, .ref ts, .ref tr, .ref tk, .ref te])), (tk, .inl (cI, 4, .inl (fun _ => 0))), (xm, .inr (20, [.int 0, .int 0, .ref kn, .int 0, .int 0, .int 0, .ref ml, .ref cl, .ref rg, .ref tR, .ref (aK 0), .ref (aK 0), .ref fl, .int 0, .int 0, .int 0, .int 0, .int 0, .int 0, .int 0, .null])), (tR, .inl (cS, 4, .inr (.inr (.inr (.inr (va_up (va_up (va_up (va_up (fun _ => none) (Int32.toNatClampNeg 0) (some (aK 0))) (Int32.toNatClampNeg 1) (some (aK 0))) (Int32.toNatClampNeg 2) (some (aK 0))) (Int32.toNatClampNeg 3) (some (aK 0))))))))] H) (hD : va_D A [(ya, .inr (16, [.ref ms, .int 0, .ref ju, .ref li, .ref ct, .ref tg, .ref fw])), (tg, .inr (14, [.int 0, .int 0, .ref ts, .ref tr, .ref tk, .ref te])), (tk, .inl (cI, 4, .inl (fun _ => 0))), (xm, .inr (20, [.int 0, .int 0, .ref kn, .int 0, .int 0, .int 0, .ref ml, .ref cl, .ref rg, .ref tR, .ref (aK 0), .ref (aK 0), .ref fl, .int 0, .int 0, .int 0, .int 0, .int 0, .int 0, .int 0, .null])), (tR, .inl (cS, 4, .inr (.inr (.inr (.inr (va_up (va_up (va_up (va_up (fun _ => none) (Int32.toNatClampNeg 0) (some (aK 0))) (Int32.toNatClampNeg 1) (some (aK 0))) (Int32.toNatClampNeg 2) (some (aK 0))) (Int32.toNatClampNeg 3) (some (aK 0))))))))]) (hK : va_K (dC, dI) vwCl [(cI, .int), (cS, .object "java/lang/String")] s) (hS : va_S A s.heap H locs) {ls : Array Slot} (hl : lv_has ls 9 [(0, .ref b), (1, .ref ya), (2, .ref xm), (3, .ref ou), (4, .ref od), (5, .int 0)]) : W p l e room_1 s m #[Value.ref b] below meth c H locs 200 60000 (lw_Z below #[Value.ref b] s) (F0 m 2330 ls []) := by
  obtain ⟨s1, hs1⟩ : ∃ z, z = xs ((0 : Int32) + 1).toNatClampNeg := ⟨_, rfl⟩
  obtain ⟨s2, hs2⟩ : ∃ z, z = xs ((0 : Int32) + 2).toNatClampNeg := ⟨_, rfl⟩
  obtain ⟨s3, hs3⟩ : ∃ z, z = xs ((0 : Int32) + 3).toNatClampNeg := ⟨_, rfl⟩
  obtain ⟨s4, hs4⟩ : ∃ z, z = xs ((0 : Int32) + 4).toNatClampNeg := ⟨_, rfl⟩
  obtain ⟨s5, hs5⟩ : ∃ z, z = xs ((0 : Int32) + 5).toNatClampNeg := ⟨_, rfl⟩
  obtain ⟨s6, hs6⟩ : ∃ z, z = xs ((0 : Int32) + 6).toNatClampNeg := ⟨_, rfl⟩
  obtain ⟨k1, hk1⟩ : ∃ z, z = (s1.toUInt32 % 65536).toInt32 := ⟨_, rfl⟩
  obtain ⟨k2, hk2⟩ : ∃ z, z = (s2.toUInt32 % 65536).toInt32 := ⟨_, rfl⟩
  obtain ⟨k3, hk3⟩ : ∃ z, z = (s3.toUInt32 % 65536).toInt32 := ⟨_, rfl⟩
  obtain ⟨k4, hk4⟩ : ∃ z, z = (s4.toUInt32 % 65536).toInt32 := ⟨_, rfl⟩
  obtain ⟨k5, hk5⟩ : ∃ z, z = (s5.toUInt32 % 65536).toInt32 := ⟨_, rfl⟩
  obtain ⟨k6, hk6⟩ : ∃ z, z = (s6.toUInt32 % 65536).toInt32 := ⟨_, rfl⟩
  refine lv_aload_n hx hb dL_law_2330 rfl (lv_at hl 1 rfl) ?_
  have hPc := hP.sub (ws' := [(ya, .inr (16, [.ref ms, .int 0, .ref ju, .ref li, .ref ct, .ref tg, .ref fw])), (tg, .inr (14, [.int 0, .int 0, .ref ts, .ref tr, .ref tk, .ref te])), (tk, .inl (cI, 4, .inl (fun _ => 0)))]) [0, 1, 2] rfl
  have hDc := hD.sub (ws' := [(ya, .inr (16, [.ref ms, .int 0, .ref ju, .ref li, .ref ct, .ref tg, .ref fw])), (tg, .inr (14, [.int 0, .int 0, .ref ts, .ref tr, .ref tk, .ref te])), (tk, .inl (cI, 4, .inl (fun _ => 0)))]) [0, 1, 2] (by decide) rfl
  have hKc := hK.sub (tys' := [(cI, .int)]) [0] rfl
  have hFc := va_free (wc := [(ya, .inr (16, [.ref ms, .int 0, .ref ju, .ref li, .ref ct, .ref tg, .ref fw])), (tg, .inr (14, [.int 0, .int 0, .ref ts, .ref tr, .ref tk, .ref te])), (tk, .inl (cI, 4, .inl (fun _ => 0)))]) hD hS hA [0, 1, 2] rfl
  refine vx_calli (vx_runV (As := []) (rest := []) ⟨hx, hb, hml, hown, hts⟩ (c_X11_untag l hfl dC dI cI ya ms ju li ct tg fw ts tr tk te H.size) (cwV 0 hts gL_law_X11_untag rfl rfl rfl (by decide +kernel) ⟨Nat.le_of_ble_eq_true rfl, Nat.le_of_ble_eq_true rfl⟩) (pcVz (zX_ok) hPc hDc hKc hN hZ.1 hS hFc (ci := 16) (q0 := 0) rfl rfl) rfl rfl hl.1 rfl (lv_room (Nat.le_of_ble_eq_true rfl)) dL_law_2331 ⟨Nat.le_of_ble_eq_true rfl, Nat.le_of_ble_eq_true rfl⟩) hS (fun q _ h => hFc q h) hFc (fun q _ h => hFc q h) (fun E9 ce9 q9 u9 t9 H9 locs9 ht9 hvm9 hp9 hE9 hz9 hk9 hS9 hc9 hv9 hcl9 => hE9.elim) (fun r_1 u t H1 locs ht hvm hw_2 hB hz1 hk1 hS => ?_)
  obtain ⟨hP1, hK1, hD1⟩ := hB
  rw [ht] at hP1
  try dsimp only at hw_2
  obtain ⟨hP, hD⟩ := va_join (wr := [(xm, .inr (20, [.int 0, .int 0, .ref kn, .int 0, .int 0, .int 0, .ref ml, .ref cl, .ref rg, .ref tR, .ref (aK 0), .ref (aK 0), .ref fl, .int 0, .int 0, .int 0, .int 0, .int 0, .int 0, .int 0, .null])), (tR, .inl (cS, 4, .inr (.inr (.inr (.inr (va_up (va_up (va_up (va_up (fun _ => none) (Int32.toNatClampNeg 0) (some (aK 0))) (Int32.toNatClampNeg 1) (some (aK 0))) (Int32.toNatClampNeg 2) (some (aK 0))) (Int32.toNatClampNeg 3) (some (aK 0))))))))]) (w1 := []) hP hD [0, 1, 2] [3, 4] rfl rfl (by decide) (by decide) hk1 hFc hP1 hD1
  generalize H1 = H at hP hS ⊢
  have hP : va_P (dC, dI) vwCl [(xm, .inr (20, [.int 0, .int 0, .ref kn, .int 0, .int 0, .int 0, .ref ml, .ref cl, .ref rg, .ref tR, .ref (aK 0), .ref (aK 0), .ref fl, .int 0, .int 0, .int 0, .int 0, .int 0, .int 0, .int 0, .null])), (tR, .inl (cS, 4, .inr (.inr (.inr (.inr (va_up (va_up (va_up (va_up (fun _ => none) (Int32.toNatClampNeg 0) (some (aK 0))) (Int32.toNatClampNeg 1) (some (aK 0))) (Int32.toNatClampNeg 2) (some (aK 0))) (Int32.toNatClampNeg 3) (some (aK 0))))))))] H := hP
  have hD : va_D A [(xm, .inr (20, [.int 0, .int 0, .ref kn, .int 0, .int 0, .int 0, .ref ml, .ref cl, .ref rg, .ref tR, .ref (aK 0), .ref (aK 0), .ref fl, .int 0, .int 0, .int 0, .int 0, .int 0, .int 0, .int 0, .null])), (tR, .inl (cS, 4, .inr (.inr (.inr (.inr (va_up (va_up (va_up (va_up (fun _ => none) (Int32.toNatClampNeg 0) (some (aK 0))) (Int32.toNatClampNeg 1) (some (aK 0))) (Int32.toNatClampNeg 2) (some (aK 0))) (Int32.toNatClampNeg 3) (some (aK 0))))))))] := hD
  obtain rfl : r_1 = 0 := hw_2
  refine lv_aload_n hx hb dL_law_2334 rfl (lv_at hl 2 rfl) ?_
  have hPc := hP.sub (ws' := [(xm, .inr (20, [.int 0, .int 0, .ref kn, .int 0, .int 0, .int 0, .ref ml, .ref cl, .ref rg, .ref tR, .ref (aK 0), .ref (aK 0), .ref fl, .int 0, .int 0, .int 0, .int 0, .int 0, .int 0, .int 0, .null])), (tR, .inl (cS, 4, .inr (.inr (.inr (.inr (va_up (va_up (va_up (va_up (fun _ => none) (Int32.toNatClampNeg 0) (some (aK 0))) (Int32.toNatClampNeg 1) (some (aK 0))) (Int32.toNatClampNeg 2) (some (aK 0))) (Int32.toNatClampNeg 3) (some (aK 0))))))))]) [0, 1] rfl
  have hDc := hD.sub (ws' := [(xm, .inr (20, [.int 0, .int 0, .ref kn, .int 0, .int 0, .int 0, .ref ml, .ref cl, .ref rg, .ref tR, .ref (aK 0), .ref (aK 0), .ref fl, .int 0, .int 0, .int 0, .int 0, .int 0, .int 0, .int 0, .null])), (tR, .inl (cS, 4, .inr (.inr (.inr (.inr (va_up (va_up (va_up (va_up (fun _ => none) (Int32.toNatClampNeg 0) (some (aK 0))) (Int32.toNatClampNeg 1) (some (aK 0))) (Int32.toNatClampNeg 2) (some (aK 0))) (Int32.toNatClampNeg 3) (some (aK 0))))))))]) [0, 1] (by decide) rfl
  have hKc := hK.sub (tys' := [(cS, .object "java/lang/String")]) [1] rfl
  have hFc := va_free (wc := [(xm, .inr (20, [.int 0, .int 0, .ref kn, .int 0, .int 0, .int 0, .ref ml, .ref cl, .ref rg, .ref tR, .ref (aK 0), .ref (aK 0), .ref fl, .int 0, .int 0, .int 0, .int 0, .int 0, .int 0, .int 0, .null])), (tR, .inl (cS, 4, .inr (.inr (.inr (.inr (va_up (va_up (va_up (va_up (fun _ => none) (Int32.toNatClampNeg 0) (some (aK 0))) (Int32.toNatClampNeg 1) (some (aK 0))) (Int32.toNatClampNeg 2) (some (aK 0))) (Int32.toNatClampNeg 3) (some (aK 0))))))))]) hD hS hA [0, 1] rfl
  refine va_calli (va_runV (As := []) (rest := [.int 0]) ⟨hx, hb, hml, hown, hts⟩ (c_X15_untag l dC dI xm ml cl fl kn rg tR e0 aK aV cS H.size) (cwV 0 hts gL_law_X15_untag rfl rfl rfl (by decide +kernel) ⟨Nat.le_of_ble_eq_true rfl, Nat.le_of_ble_eq_true rfl⟩) (pcVz (zM_ok e0 aK aV) hPc hDc hKc hN hZ.2 hS hFc (ci := 20) (q0 := 0) rfl rfl) rfl rfl hl.1 rfl (lv_room (Nat.le_of_ble_eq_true rfl)) dL_law_2335 ⟨Nat.le_of_ble_eq_true rfl, Nat.le_of_ble_eq_true rfl⟩) hS (fun q _ h => hFc q h) hFc (fun r_4 u t H1 locs ht hvm hw_5 hB hz1 hk1 hS => ?_)
  obtain fs_3 := u
  obtain ⟨hP1, hK1, hD1⟩ := hB
  rw [ht] at hP1
  try dsimp only at hw_5
  obtain ⟨hP, hD⟩ := va_join (wr := []) (w1 := [(xm, .inr (20, fs_3))]) hP hD [0, 1] [] rfl rfl (by decide) (by decide) hk1 hFc hP1 hD1
  generalize H1 = H at hP hS ⊢
  have hP : va_P (dC, dI) vwCl [(xm, .inr (20, fs_3))] H := hP
  have hD : va_D A [(xm, .inr (20, fs_3))] := hD
  obtain rfl : r_4 = 0 := hw_5.2
  refine lv_icmp_eq (tgt := 2778) hx hb dL_law_2338 (by decide) (fun c2338_6 => ?_) (fun c2338_6 => ?_)
  · refine W.widen (k := 600006) (n := 7302039) (Nat.le_of_ble_eq_true rfl) (Nat.le_of_ble_eq_true rfl) ?_
    exact law_end hx hb hr hml hX hbl hlocks hbA hAo hS (lv_sub hl [0, 5] rfl)
  · exact (c2338_6 (by decide)).elim

set_option maxHeartbeats 8000000 in
set_option maxRecDepth 100000 in
/-- the law: law_32_tag -/
theorem law_32_tag {p : Program} {e : Env} {s : State} {m : MethodId} {below : List Frame} {meth : Method} {c : Code} {l : Launch} {b : Nat} {xs : Nat → Int32} (hx : p.tables.exec = Jvm.exec) (hb : c.code = cL_law) (hr : meth.sig.returnType = ret) (hml : c.maxLocals = 9) (hfl : l.stackTraces = false) (hown : s.vm.findClass RL = some m.cls) (hts : ∀ w ∈ wsL_law, w.before #[Value.ref b] s = true) (hX : va_X b 7 xs s s.heap) (hbl : b < s.heap.size) (hlocks : meth.locks = false) {A : Nat → Prop} (hbA : ¬ A b) (hAo : ∀ q, A q → s.heap.size ≤ q) (hA : ∀ q : Nat, s.heap.size ≤ q → A q) (dC : Nat → ClassId) (dI : Nat → Nat → Nat) (hN : nwA s) (e0 : Nat) (aK aV : Nat → Nat) (hZ : zX A s s.heap ∧ zM e0 aK aV A s s.heap) (ya ms ju rj tj ro rn tn rh th ca sa da xa wb z1 z2 jt z3 br z4 z5 z6 lk z7 z8 li bm l2 z9 bo h2 mm l1 z10 oo h1 ct cr cu cg cp co tg ts tr tk te fw fo fu xm ml cl fl rg tR ou od kn : Nat) (cI cM cS cL cD cB : ClassId) {H : Heap} {locs : List Loc} (hP : va_P (dC, dI) vwCl [(ya, .inr (16, [.ref ms, .int 0, .ref ju, .ref li, .ref ct, .ref tg, .ref fw])), (tg, .inr (14, [.int 0, .int 0, .ref ts, .ref tr, .ref tk, .ref te])), (ts, .inl (cI, 40, .inl (fun _ => 0))), (tk, .inl (cI, 4, .inl (fun _ => 0))), (te, .inl (cI, 400, .inl (fun _ => 0))), (ou, .inl (cL, 1, .inr (.inl (fun _ => 0)))), (xm, .inr (20, [.int 0, .int 0, .ref kn, .int 0, .int 0, .int 0, .ref ml, .ref cl, .ref rg, .ref tR, .ref (aK 0), .ref (aK 0), .ref fl, .int 0, .int 0, .int 0, .int 0, .int 0, .int 0, .int 0, .null]))] H) (hD : va_D A [(ya, .inr (16, [.ref ms, .int 0, .ref ju, .ref li, .ref ct, .ref tg, .ref fw])), (tg, .inr (14, [.int 0, .int 0, .ref ts, .ref tr, .ref tk, .ref te])), (ts, .inl (cI, 40, .inl (fun _ => 0))), (tk, .inl (cI, 4, .inl (fun _ => 0))), (te, .inl (cI, 400, .inl (fun _ => 0))), (ou, .inl (cL, 1, .inr (.inl (fun _ => 0)))), (xm, .inr (20, [.int 0, .int 0, .ref kn, .int 0, .int 0, .int 0, .ref ml, .ref cl, .ref rg, .ref tR, .ref (aK 0), .ref (aK 0), .ref fl, .int 0, .int 0, .int 0, .int 0, .int 0, .int 0, .int 0, .null]))]) (hK : va_K (dC, dI) vwCl [(cI, .int), (cL, .long), (cB, .byte)] s) (hS : va_S A s.heap H locs) {ls : Array Slot} (hl : lv_has ls 9 [(0, .ref b), (1, .ref ya), (2, .ref xm), (3, .ref ou), (4, .ref od), (5, .int 0)]) : W p l e room_1 s m #[Value.ref b] below meth c H locs 200 60000 (lw_Z below #[Value.ref b] s) (F0 m 2343 ls []) := by
  obtain ⟨s1, hs1⟩ : ∃ z, z = xs ((0 : Int32) + 1).toNatClampNeg := ⟨_, rfl⟩
  obtain ⟨s2, hs2⟩ : ∃ z, z = xs ((0 : Int32) + 2).toNatClampNeg := ⟨_, rfl⟩
  obtain ⟨s3, hs3⟩ : ∃ z, z = xs ((0 : Int32) + 3).toNatClampNeg := ⟨_, rfl⟩
  obtain ⟨s4, hs4⟩ : ∃ z, z = xs ((0 : Int32) + 4).toNatClampNeg := ⟨_, rfl⟩
  obtain ⟨s5, hs5⟩ : ∃ z, z = xs ((0 : Int32) + 5).toNatClampNeg := ⟨_, rfl⟩
  obtain ⟨s6, hs6⟩ : ∃ z, z = xs ((0 : Int32) + 6).toNatClampNeg := ⟨_, rfl⟩
  obtain ⟨k1, hk1⟩ : ∃ z, z = (s1.toUInt32 % 65536).toInt32 := ⟨_, rfl⟩
  obtain ⟨k2, hk2⟩ : ∃ z, z = (s2.toUInt32 % 65536).toInt32 := ⟨_, rfl⟩
  obtain ⟨k3, hk3⟩ : ∃ z, z = (s3.toUInt32 % 65536).toInt32 := ⟨_, rfl⟩
  obtain ⟨k4, hk4⟩ : ∃ z, z = (s4.toUInt32 % 65536).toInt32 := ⟨_, rfl⟩
  obtain ⟨k5, hk5⟩ : ∃ z, z = (s5.toUInt32 % 65536).toInt32 := ⟨_, rfl⟩
  obtain ⟨k6, hk6⟩ : ∃ z, z = (s6.toUInt32 % 65536).toInt32 := ⟨_, rfl⟩
  refine lv_aload_n hx hb dL_law_2343 rfl (lv_at hl 1 rfl) ?_
  refine lv_aload_n hx hb dL_law_2344 rfl (lv_at hl 0 rfl) ?_
  refine lv_iload hx hb dL_law_2345 (lv_at hl 5 rfl) ?_
  refine lv_iconst (v := 1) hx hb dL_law_2347 (by decide) ?_
  refine lv_iadd hx hb dL_law_2348 ?_
  refine va_sld hx hb hX hbl hbA hS sx1 dL_law_2349 ?_
  refine lv_topi (fun x_1 ex_1 => ?_)
  obtain rfl : s1 = x_1 := (ex_1.trans hs1.symm).symm
  refine lv_aload_n hx hb dL_law_2350 rfl (lv_at hl 0 rfl) ?_
  refine lv_iload hx hb dL_law_2351 (lv_at hl 5 rfl) ?_
  refine lv_iconst (v := 2) hx hb dL_law_2353 (by decide) ?_
  refine lv_iadd hx hb dL_law_2354 ?_
  refine va_sld hx hb hX hbl hbA hS sx2 dL_law_2355 ?_
  refine lv_topi (fun x_2 ex_2 => ?_)
  obtain rfl : s2 = x_2 := (ex_2.trans hs2.symm).symm
  refine lv_aload_n hx hb dL_law_2356 rfl (lv_at hl 3 rfl) ?_
  have hPc := hP.sub (ws' := [(ya, .inr (16, [.ref ms, .int 0, .ref ju, .ref li, .ref ct, .ref tg, .ref fw])), (tg, .inr (14, [.int 0, .int 0, .ref ts, .ref tr, .ref tk, .ref te])), (ts, .inl (cI, 40, .inl (fun _ => 0))), (tk, .inl (cI, 4, .inl (fun _ => 0))), (te, .inl (cI, 400, .inl (fun _ => 0))), (ou, .inl (cL, 1, .inr (.inl (fun _ => 0))))]) [0, 1, 2, 3, 4, 5] rfl
  have hDc := hD.sub (ws' := [(ya, .inr (16, [.ref ms, .int 0, .ref ju, .ref li, .ref ct, .ref tg, .ref fw])), (tg, .inr (14, [.int 0, .int 0, .ref ts, .ref tr, .ref tk, .ref te])), (ts, .inl (cI, 40, .inl (fun _ => 0))), (tk, .inl (cI, 4, .inl (fun _ => 0))), (te, .inl (cI, 400, .inl (fun _ => 0))), (ou, .inl (cL, 1, .inr (.inl (fun _ => 0))))]) [0, 1, 2, 3, 4, 5] (by decide) rfl
  have hKc := hK.sub (tys' := [(cI, .int), (cL, .long)]) [0, 1] rfl
  have hFc := va_free (wc := [(ya, .inr (16, [.ref ms, .int 0, .ref ju, .ref li, .ref ct, .ref tg, .ref fw])), (tg, .inr (14, [.int 0, .int 0, .ref ts, .ref tr, .ref tk, .ref te])), (ts, .inl (cI, 40, .inl (fun _ => 0))), (tk, .inl (cI, 4, .inl (fun _ => 0))), (te, .inl (cI, 400, .inl (fun _ => 0))), (ou, .inl (cL, 1, .inr (.inl (fun _ => 0))))]) hD hS hA [0, 1, 2, 3, 4, 5] rfl
  refine vx_calli (vx_runSX (As := [.ref ya, .int s1, .int s2, .ref ou]) (rest := []) ⟨hx, hb, hml, hown, hts⟩ (c_L_tag l hfl dC dI cI ya ms ju li ct tg fw ts tr tk te (fun _ => 0) (fun _ => 0) s1 s2 cL ou (fun _ => 0) H.size) (vx_cwSW 4 hts gL_law_L_tag rfl rfl rfl (by decide +kernel) ⟨Nat.le_of_ble_eq_true rfl, Nat.le_of_ble_eq_true rfl⟩) (pcSz (zX_ok) hPc hDc hKc hN hZ.1 hS hFc) rfl rfl hl.1 rfl (lv_room (Nat.le_of_ble_eq_true rfl)) dL_law_2357 ⟨Nat.le_of_ble_eq_true rfl, Nat.le_of_ble_eq_true rfl⟩) hS (fun q _ h => hFc q h) hFc (fun q _ h => hFc q h) (fun E9 ce9 q9 u9 t9 H9 locs9 ht9 hvm9 hp9 hE9 hz9 hk9 hS9 hc9 hv9 hcl9 => hE9.elim) (fun r_4 u t H1 locs ht hvm hw_5 hB hz1 hk1 hS => ?_)
  obtain of_3 := u
  obtain ⟨hP1, hK1, hD1⟩ := hB
  rw [ht] at hP1
  try dsimp only at hw_5
  obtain ⟨hP, hD⟩ := va_join (wr := [(xm, .inr (20, [.int 0, .int 0, .ref kn, .int 0, .int 0, .int 0, .ref ml, .ref cl, .ref rg, .ref tR, .ref (aK 0), .ref (aK 0), .ref fl, .int 0, .int 0, .int 0, .int 0, .int 0, .int 0, .int 0, .null]))]) (w1 := [(ou, .inl (cL, 1, .inr (.inl of_3)))]) hP hD [0, 1, 2, 3, 4, 5] [6] rfl rfl (by decide) (by decide) hk1 hFc hP1 hD1
  generalize H1 = H at hP hS ⊢
  have hP : va_P (dC, dI) vwCl [(xm, .inr (20, [.int 0, .int 0, .ref kn, .int 0, .int 0, .int 0, .ref ml, .ref cl, .ref rg, .ref tR, .ref (aK 0), .ref (aK 0), .ref fl, .int 0, .int 0, .int 0, .int 0, .int 0, .int 0, .int 0, .null])), (ou, .inl (cL, 1, .inr (.inl of_3)))] H := hP
  have hD : va_D A [(xm, .inr (20, [.int 0, .int 0, .ref kn, .int 0, .int 0, .int 0, .ref ml, .ref cl, .ref rg, .ref tR, .ref (aK 0), .ref (aK 0), .ref fl, .int 0, .int 0, .int 0, .int 0, .int 0, .int 0, .int 0, .null])), (ou, .inl (cL, 1, .inr (.inl of_3)))] := hD
  refine W.widen (k := 202) (n := 60012) (Nat.le_of_ble_eq_true rfl) (Nat.le_of_ble_eq_true rfl) ?_
  rcases hw_5 with ⟨hr0, hPP, hv0⟩ | ⟨hr0, hPP⟩
  · obtain rfl : r_4 = 0 := hr0
    refine lv_istore (lv' := [(6, .int 0), (0, .ref b), (1, .ref ya), (2, .ref xm), (3, .ref ou), (4, .ref od), (5, .int 0)]) hx hb dL_law_2360 hl (by decide) rfl (fun ls hl => ?_)
    refine lv_aload_n hx hb dL_law_2362 rfl (lv_at hl 3 rfl) ?_
    refine lv_aload_n hx hb dL_law_2363 rfl (lv_at hl 1 rfl) ?_
    refine lv_iload hx hb dL_law_2364 (lv_at hl 6 rfl) ?_
    refine lv_iconst (v := 1) hx hb dL_law_2366 (by decide) ?_
    refine lv_iadd hx hb dL_law_2367 ?_
    refine va_sld hx hb hX hbl hbA hS sx1 dL_law_2368 ?_
    refine lv_topi (fun x_6 ex_6 => ?_)
    obtain rfl : s1 = x_6 := (ex_6.trans hs1.symm).symm
    refine lv_aload_n hx hb dL_law_2369 rfl (lv_at hl 1 rfl) ?_
    refine lv_iload hx hb dL_law_2370 (lv_at hl 6 rfl) ?_
    refine lv_iconst (v := 2) hx hb dL_law_2372 (by decide) ?_
    refine lv_iadd hx hb dL_law_2373 ?_
    refine va_sld hx hb hX hbl hbA hS sx2 dL_law_2374 ?_
    refine lv_topi (fun x_7 ex_7 => ?_)
    obtain rfl : s2 = x_7 := (ex_7.trans hs2.symm).symm
    have hPc := hP.sub (ws' := [(xm, .inr (20, [.int 0, .int 0, .ref kn, .int 0, .int 0, .int 0, .ref ml, .ref cl, .ref rg, .ref tR, .ref (aK 0), .ref (aK 0), .ref fl, .int 0, .int 0, .int 0, .int 0, .int 0, .int 0, .int 0, .null]))]) [0] rfl
    have hDc := hD.sub (ws' := [(xm, .inr (20, [.int 0, .int 0, .ref kn, .int 0, .int 0, .int 0, .ref ml, .ref cl, .ref rg, .ref tR, .ref (aK 0), .ref (aK 0), .ref fl, .int 0, .int 0, .int 0, .int 0, .int 0, .int 0, .int 0, .null]))]) [0] (by decide) rfl
    have hKc := hK.sub (tys' := [(cB, .byte)]) [2] rfl
    have hFc := va_free (wc := [(xm, .inr (20, [.int 0, .int 0, .ref kn, .int 0, .int 0, .int 0, .ref ml, .ref cl, .ref rg, .ref tR, .ref (aK 0), .ref (aK 0), .ref fl, .int 0, .int 0, .int 0, .int 0, .int 0, .int 0, .int 0, .null]))]) hD hS hA [0] rfl
    refine va_calli (va_runV (As := [.int s1, .int s2]) (rest := []) ⟨hx, hb, hml, hown, hts⟩ (c_X15_tag l dC dI xm ml cl fl kn rg tR e0 aK aV cB s1 s2 H.size) (cwV 2 hts gL_law_X15_tag rfl rfl rfl (by decide +kernel) ⟨Nat.le_of_ble_eq_true rfl, Nat.le_of_ble_eq_true rfl⟩) (pcVz (zM_ok e0 aK aV) hPc hDc hKc hN hZ.2 hS hFc (ci := 20) (q0 := 0) rfl rfl) rfl rfl hl.1 rfl (lv_room (Nat.le_of_ble_eq_true rfl)) dL_law_2375 ⟨Nat.le_of_ble_eq_true rfl, Nat.le_of_ble_eq_true rfl⟩) hS (fun q _ h => hFc q h) hFc (fun r_9 u t H1 locs ht hvm hw_10 hB hz1 hk1 hS => ?_)
    obtain fs_8 := u
    obtain ⟨hP1, hK1, hD1⟩ := hB
    rw [ht] at hP1
    try dsimp only at hw_10
    obtain ⟨hP, hD⟩ := va_join (wr := [(ou, .inl (cL, 1, .inr (.inl of_3)))]) (w1 := [(xm, .inr (20, fs_8))]) hP hD [0] [1] rfl rfl (by decide) (by decide) hk1 hFc hP1 hD1
    generalize H1 = H at hP hS ⊢
    have hP : va_P (dC, dI) vwCl [(ou, .inl (cL, 1, .inr (.inl of_3))), (xm, .inr (20, fs_8))] H := hP
    have hD : va_D A [(ou, .inl (cL, 1, .inr (.inl of_3))), (xm, .inr (20, fs_8))] := hD
    refine W.widen (k := 206) (n := 60036) (Nat.le_of_ble_eq_true rfl) (Nat.le_of_ble_eq_true rfl) ?_
    obtain ⟨ht9, hrv⟩ := hw_10.elim (fun h => h.2) (fun h => absurd hPP h.1)
    obtain rfl : r_9 = 0 := hrv
    refine lv_istore (lv' := [(7, .int 0), (6, .int 0), (0, .ref b), (1, .ref ya), (2, .ref xm), (3, .ref ou), (4, .ref od), (5, .int 0)]) hx hb dL_law_2378 hl (by decide) rfl (fun ls hl => ?_)
    refine lv_aload_n hx hb dL_law_2380 rfl (lv_at hl 4 rfl) ?_
    have hPc := hP.sub (ws' := [(xm, .inr (20, fs_8))]) [1] rfl
    have hDc := hD.sub (ws' := [(xm, .inr (20, fs_8))]) [1] (by decide) rfl
    have hKc := hK.sub (tys' := []) [] rfl
    have hFc := va_free (wc := [(xm, .inr (20, fs_8))]) hD hS hA [1] rfl
    refine va_calli (va_runV (As := []) (rest := []) ⟨hx, hb, hml, hown, hts⟩ (c_X15_thrown l dC dI xm fs_8 0 ht9 H.size) (cwV 0 hts gL_law_X15_thrown rfl rfl rfl (by decide +kernel) ⟨Nat.le_of_ble_eq_true rfl, Nat.le_of_ble_eq_true rfl⟩) (pcV hPc hDc hKc hN (ci := 20) (q0 := 0) rfl rfl) rfl rfl hl.1 rfl (lv_room (Nat.le_of_ble_eq_true rfl)) dL_law_2381 ⟨Nat.le_of_ble_eq_true rfl, Nat.le_of_ble_eq_true rfl⟩) hS (fun q _ h => hFc q h) hFc (fun r_11 u t H1 locs ht hvm hw_12 hB hz1 hk1 hS => ?_)
    obtain ⟨hP1, hK1, hD1⟩ := hB
    rw [ht] at hP1
    try dsimp only at hw_12
    obtain ⟨hP, hD⟩ := va_join (wr := [(ou, .inl (cL, 1, .inr (.inl of_3)))]) (w1 := []) hP hD [1] [0] rfl rfl (by decide) (by decide) hk1 hFc hP1 hD1
    generalize H1 = H at hP hS ⊢
    have hP : va_P (dC, dI) vwCl [(ou, .inl (cL, 1, .inr (.inl of_3)))] H := hP
    have hD : va_D A [(ou, .inl (cL, 1, .inr (.inl of_3)))] := hD
    obtain rfl : r_11 = 0 := hw_12
    refine lv_iload hx hb dL_law_2384 (lv_at hl 1 rfl) ?_
    refine lv_icmp_eq (tgt := 2391) hx hb dL_law_2386 (by decide) (fun c2386_13 => ?_) (fun c2386_13 => ?_)
    · refine lv_iload hx hb dL_law_2391 (lv_at hl 1 rfl) ?_
      refine lv_if_ne (tgt := 2408) hx hb dL_law_2393 (by decide) (fun c2393_14 => ?_) (fun c2393_14 => ?_)
      · exact (c2393_14 (by decide)).elim
      · refine lv_aload_n hx hb dL_law_2396 rfl (lv_at hl 5 rfl) ?_
        refine lv_iconst (v := 0) hx hb dL_law_2397 (by decide) ?_
        refine va_lald hx hb hK hP 0 1 rfl rfl (show vp_in (nI 0) 1 from vp_in_nI (by decide) (by decide)) dL_law_2398 ?_
        refine lv_topl (fun z_15 ez_15 => ?_)
        obtain rfl : z_15 = (0 : Int32).toInt64 := by rw [ez_15, show (0 : Int32).toNatClampNeg = 0 from by decide]; exact hv0
        refine lv_iload hx hb dL_law_2399 (lv_at hl 0 rfl) ?_
        refine lv_i2l hx hb dL_law_2401 rfl ?_
        refine W.lcmp hx hb dL_law_2402 ?_
        refine lv_if_eq (tgt := 2408) hx hb dL_law_2403 (by decide) (fun c2403_16 => ?_) (fun c2403_16 => ?_)
        · refine lv_goto (tgt := 2778) hx hb dL_law_2408 (by decide) ?_
          refine W.widen (k := 600006) (n := 7302039) (Nat.le_of_ble_eq_true rfl) (Nat.le_of_ble_eq_true rfl) ?_
          exact law_end hx hb hr hml hX hbl hlocks hbA hAo hS (lv_sub hl [2, 7] rfl)
        · exact absurd ((lg_cmp_eq _ _).mpr rfl) c2403_16
    · exact (c2386_13 (by decide)).elim
  · obtain rfl : r_4 = 1 := hr0
    refine lv_istore (lv' := [(6, .int 1), (0, .ref b), (1, .ref ya), (2, .ref xm), (3, .ref ou), (4, .ref od), (5, .int 0)]) hx hb dL_law_2360 hl (by decide) rfl (fun ls hl => ?_)
    refine lv_aload_n hx hb dL_law_2362 rfl (lv_at hl 3 rfl) ?_
    refine lv_aload_n hx hb dL_law_2363 rfl (lv_at hl 1 rfl) ?_
    refine lv_iload hx hb dL_law_2364 (lv_at hl 6 rfl) ?_
    refine lv_iconst (v := 1) hx hb dL_law_2366 (by decide) ?_
    refine lv_iadd hx hb dL_law_2367 ?_
    refine va_sld hx hb hX hbl hbA hS sx1 dL_law_2368 ?_
    refine lv_topi (fun x_17 ex_17 => ?_)
    obtain rfl : s1 = x_17 := (ex_17.trans hs1.symm).symm
    refine lv_aload_n hx hb dL_law_2369 rfl (lv_at hl 1 rfl) ?_
    refine lv_iload hx hb dL_law_2370 (lv_at hl 6 rfl) ?_
    refine lv_iconst (v := 2) hx hb dL_law_2372 (by decide) ?_
    refine lv_iadd hx hb dL_law_2373 ?_
    refine va_sld hx hb hX hbl hbA hS sx2 dL_law_2374 ?_
    refine lv_topi (fun x_18 ex_18 => ?_)
    obtain rfl : s2 = x_18 := (ex_18.trans hs2.symm).symm
    have hPc := hP.sub (ws' := [(xm, .inr (20, [.int 0, .int 0, .ref kn, .int 0, .int 0, .int 0, .ref ml, .ref cl, .ref rg, .ref tR, .ref (aK 0), .ref (aK 0), .ref fl, .int 0, .int 0, .int 0, .int 0, .int 0, .int 0, .int 0, .null]))]) [0] rfl
    have hDc := hD.sub (ws' := [(xm, .inr (20, [.int 0, .int 0, .ref kn, .int 0, .int 0, .int 0, .ref ml, .ref cl, .ref rg, .ref tR, .ref (aK 0), .ref (aK 0), .ref fl, .int 0, .int 0, .int 0, .int 0, .int 0, .int 0, .int 0, .null]))]) [0] (by decide) rfl
    have hKc := hK.sub (tys' := [(cB, .byte)]) [2] rfl
    have hFc := va_free (wc := [(xm, .inr (20, [.int 0, .int 0, .ref kn, .int 0, .int 0, .int 0, .ref ml, .ref cl, .ref rg, .ref tR, .ref (aK 0), .ref (aK 0), .ref fl, .int 0, .int 0, .int 0, .int 0, .int 0, .int 0, .int 0, .null]))]) hD hS hA [0] rfl
    refine va_calli (va_runV (As := [.int s1, .int s2]) (rest := []) ⟨hx, hb, hml, hown, hts⟩ (c_X15_tag l dC dI xm ml cl fl kn rg tR e0 aK aV cB s1 s2 H.size) (cwV 2 hts gL_law_X15_tag rfl rfl rfl (by decide +kernel) ⟨Nat.le_of_ble_eq_true rfl, Nat.le_of_ble_eq_true rfl⟩) (pcVz (zM_ok e0 aK aV) hPc hDc hKc hN hZ.2 hS hFc (ci := 20) (q0 := 0) rfl rfl) rfl rfl hl.1 rfl (lv_room (Nat.le_of_ble_eq_true rfl)) dL_law_2375 ⟨Nat.le_of_ble_eq_true rfl, Nat.le_of_ble_eq_true rfl⟩) hS (fun q _ h => hFc q h) hFc (fun r_20 u t H1 locs ht hvm hw_21 hB hz1 hk1 hS => ?_)
    obtain fs_19 := u
    obtain ⟨hP1, hK1, hD1⟩ := hB
    rw [ht] at hP1
    try dsimp only at hw_21
    obtain ⟨hP, hD⟩ := va_join (wr := [(ou, .inl (cL, 1, .inr (.inl of_3)))]) (w1 := [(xm, .inr (20, fs_19))]) hP hD [0] [1] rfl rfl (by decide) (by decide) hk1 hFc hP1 hD1
    generalize H1 = H at hP hS ⊢
    have hP : va_P (dC, dI) vwCl [(ou, .inl (cL, 1, .inr (.inl of_3))), (xm, .inr (20, fs_19))] H := hP
    have hD : va_D A [(ou, .inl (cL, 1, .inr (.inl of_3))), (xm, .inr (20, fs_19))] := hD
    refine W.widen (k := 206) (n := 60036) (Nat.le_of_ble_eq_true rfl) (Nat.le_of_ble_eq_true rfl) ?_
    have ht9 := hw_21.elim (fun h => absurd h.1 hPP) (fun h => h.2)
    refine lv_istore (lv' := [(7, .int r_20), (6, .int 1), (0, .ref b), (1, .ref ya), (2, .ref xm), (3, .ref ou), (4, .ref od), (5, .int 0)]) hx hb dL_law_2378 hl (by decide) rfl (fun ls hl => ?_)
    refine lv_aload_n hx hb dL_law_2380 rfl (lv_at hl 4 rfl) ?_
    have hPc := hP.sub (ws' := [(xm, .inr (20, fs_19))]) [1] rfl
    have hDc := hD.sub (ws' := [(xm, .inr (20, fs_19))]) [1] (by decide) rfl
    have hKc := hK.sub (tys' := []) [] rfl
    have hFc := va_free (wc := [(xm, .inr (20, fs_19))]) hD hS hA [1] rfl
    refine va_calli (va_runV (As := []) (rest := []) ⟨hx, hb, hml, hown, hts⟩ (c_X15_thrown l dC dI xm fs_19 1 ht9 H.size) (cwV 0 hts gL_law_X15_thrown rfl rfl rfl (by decide +kernel) ⟨Nat.le_of_ble_eq_true rfl, Nat.le_of_ble_eq_true rfl⟩) (pcV hPc hDc hKc hN (ci := 20) (q0 := 0) rfl rfl) rfl rfl hl.1 rfl (lv_room (Nat.le_of_ble_eq_true rfl)) dL_law_2381 ⟨Nat.le_of_ble_eq_true rfl, Nat.le_of_ble_eq_true rfl⟩) hS (fun q _ h => hFc q h) hFc (fun r_22 u t H1 locs ht hvm hw_23 hB hz1 hk1 hS => ?_)
    obtain ⟨hP1, hK1, hD1⟩ := hB
    rw [ht] at hP1
    try dsimp only at hw_23
    obtain ⟨hP, hD⟩ := va_join (wr := [(ou, .inl (cL, 1, .inr (.inl of_3)))]) (w1 := []) hP hD [1] [0] rfl rfl (by decide) (by decide) hk1 hFc hP1 hD1
    generalize H1 = H at hP hS ⊢
    have hP : va_P (dC, dI) vwCl [(ou, .inl (cL, 1, .inr (.inl of_3)))] H := hP
    have hD : va_D A [(ou, .inl (cL, 1, .inr (.inl of_3)))] := hD
    obtain rfl : r_22 = 1 := hw_23
    refine lv_iload hx hb dL_law_2384 (lv_at hl 1 rfl) ?_
    refine lv_icmp_eq (tgt := 2391) hx hb dL_law_2386 (by decide) (fun c2386_24 => ?_) (fun c2386_24 => ?_)
    · refine lv_iload hx hb dL_law_2391 (lv_at hl 1 rfl) ?_
      refine lv_if_ne (tgt := 2408) hx hb dL_law_2393 (by decide) (fun c2393_25 => ?_) (fun c2393_25 => ?_)
      · refine lv_goto (tgt := 2778) hx hb dL_law_2408 (by decide) ?_
        refine W.widen (k := 600006) (n := 7302039) (Nat.le_of_ble_eq_true rfl) (Nat.le_of_ble_eq_true rfl) ?_
        exact law_end hx hb hr hml hX hbl hlocks hbA hAo hS (lv_sub hl [2, 7] rfl)
      · exact absurd c2393_25 (by decide)
    · exact (c2386_24 (by decide)).elim

set_option maxHeartbeats 8000000 in
set_option maxRecDepth 100000 in
/-- the law: law_33_tagLength -/
theorem law_33_tagLength {p : Program} {e : Env} {s : State} {m : MethodId} {below : List Frame} {meth : Method} {c : Code} {l : Launch} {b : Nat} {xs : Nat → Int32} (hx : p.tables.exec = Jvm.exec) (hb : c.code = cL_law) (hr : meth.sig.returnType = ret) (hml : c.maxLocals = 9) (hfl : l.stackTraces = false) (hown : s.vm.findClass RL = some m.cls) (hts : ∀ w ∈ wsL_law, w.before #[Value.ref b] s = true) (hX : va_X b 7 xs s s.heap) (hbl : b < s.heap.size) (hlocks : meth.locks = false) {A : Nat → Prop} (hbA : ¬ A b) (hAo : ∀ q, A q → s.heap.size ≤ q) (hA : ∀ q : Nat, s.heap.size ≤ q → A q) (dC : Nat → ClassId) (dI : Nat → Nat → Nat) (hN : nwA s) (e0 : Nat) (aK aV : Nat → Nat) (hZ : zX A s s.heap ∧ zM e0 aK aV A s s.heap) (ya ms ju rj tj ro rn tn rh th ca sa da xa wb z1 z2 jt z3 br z4 z5 z6 lk z7 z8 li bm l2 z9 bo h2 mm l1 z10 oo h1 ct cr cu cg cp co tg ts tr tk te fw fo fu xm ml cl fl rg tR ou od kn : Nat) (cI cM cS cL cD cB : ClassId) {H : Heap} {locs : List Loc} (hP : va_P (dC, dI) vwCl [(ya, .inr (16, [.ref ms, .int 0, .ref ju, .ref li, .ref ct, .ref tg, .ref fw])), (tg, .inr (14, [.int 0, .int 0, .ref ts, .ref tr, .ref tk, .ref te])), (xm, .inr (20, [.int 0, .int 0, .ref kn, .int 0, .int 0, .int 0, .ref ml, .ref cl, .ref rg, .ref tR, .ref (aK 0), .ref (aK 0), .ref fl, .int 0, .int 0, .int 0, .int 0, .int 0, .int 0, .int 0, .null]))] H) (hD : va_D A [(ya, .inr (16, [.ref ms, .int 0, .ref ju, .ref li, .ref ct, .ref tg, .ref fw])), (tg, .inr (14, [.int 0, .int 0, .ref ts, .ref tr, .ref tk, .ref te])), (xm, .inr (20, [.int 0, .int 0, .ref kn, .int 0, .int 0, .int 0, .ref ml, .ref cl, .ref rg, .ref tR, .ref (aK 0), .ref (aK 0), .ref fl, .int 0, .int 0, .int 0, .int 0, .int 0, .int 0, .int 0, .null]))]) (hK : va_K (dC, dI) vwCl [] s) (hS : va_S A s.heap H locs) {ls : Array Slot} (hl : lv_has ls 9 [(0, .ref b), (1, .ref ya), (2, .ref xm), (3, .ref ou), (4, .ref od), (5, .int 0)]) : W p l e room_1 s m #[Value.ref b] below meth c H locs 200 60000 (lw_Z below #[Value.ref b] s) (F0 m 2411 ls []) := by
  obtain ⟨s1, hs1⟩ : ∃ z, z = xs ((0 : Int32) + 1).toNatClampNeg := ⟨_, rfl⟩
  obtain ⟨s2, hs2⟩ : ∃ z, z = xs ((0 : Int32) + 2).toNatClampNeg := ⟨_, rfl⟩
  obtain ⟨s3, hs3⟩ : ∃ z, z = xs ((0 : Int32) + 3).toNatClampNeg := ⟨_, rfl⟩
  obtain ⟨s4, hs4⟩ : ∃ z, z = xs ((0 : Int32) + 4).toNatClampNeg := ⟨_, rfl⟩
  obtain ⟨s5, hs5⟩ : ∃ z, z = xs ((0 : Int32) + 5).toNatClampNeg := ⟨_, rfl⟩
  obtain ⟨s6, hs6⟩ : ∃ z, z = xs ((0 : Int32) + 6).toNatClampNeg := ⟨_, rfl⟩
  obtain ⟨k1, hk1⟩ : ∃ z, z = (s1.toUInt32 % 65536).toInt32 := ⟨_, rfl⟩
  obtain ⟨k2, hk2⟩ : ∃ z, z = (s2.toUInt32 % 65536).toInt32 := ⟨_, rfl⟩
  obtain ⟨k3, hk3⟩ : ∃ z, z = (s3.toUInt32 % 65536).toInt32 := ⟨_, rfl⟩
  obtain ⟨k4, hk4⟩ : ∃ z, z = (s4.toUInt32 % 65536).toInt32 := ⟨_, rfl⟩
  obtain ⟨k5, hk5⟩ : ∃ z, z = (s5.toUInt32 % 65536).toInt32 := ⟨_, rfl⟩
  obtain ⟨k6, hk6⟩ : ∃ z, z = (s6.toUInt32 % 65536).toInt32 := ⟨_, rfl⟩
  refine lv_aload_n hx hb dL_law_2411 rfl (lv_at hl 1 rfl) ?_
  have hPc := hP.sub (ws' := [(ya, .inr (16, [.ref ms, .int 0, .ref ju, .ref li, .ref ct, .ref tg, .ref fw])), (tg, .inr (14, [.int 0, .int 0, .ref ts, .ref tr, .ref tk, .ref te]))]) [0, 1] rfl
  have hDc := hD.sub (ws' := [(ya, .inr (16, [.ref ms, .int 0, .ref ju, .ref li, .ref ct, .ref tg, .ref fw])), (tg, .inr (14, [.int 0, .int 0, .ref ts, .ref tr, .ref tk, .ref te]))]) [0, 1] (by decide) rfl
  have hKc := hK.sub (tys' := []) [] rfl
  have hFc := va_free (wc := [(ya, .inr (16, [.ref ms, .int 0, .ref ju, .ref li, .ref ct, .ref tg, .ref fw])), (tg, .inr (14, [.int 0, .int 0, .ref ts, .ref tr, .ref tk, .ref te]))]) hD hS hA [0, 1] rfl
  refine vx_calli (vx_runV (As := []) (rest := []) ⟨hx, hb, hml, hown, hts⟩ (c_X11_tagLength l hfl dC dI ya ms ju li ct tg fw ts tr tk te H.size) (cwV 0 hts gL_law_X11_tagLength rfl rfl rfl (by decide +kernel) ⟨Nat.le_of_ble_eq_true rfl, Nat.le_of_ble_eq_true rfl⟩) (pcVz (zX_ok) hPc hDc hKc hN hZ.1 hS hFc (ci := 16) (q0 := 0) rfl rfl) rfl rfl hl.1 rfl (lv_room (Nat.le_of_ble_eq_true rfl)) dL_law_2412 ⟨Nat.le_of_ble_eq_true rfl, Nat.le_of_ble_eq_true rfl⟩) hS (fun q _ h => hFc q h) hFc (fun q _ h => hFc q h) (fun E9 ce9 q9 u9 t9 H9 locs9 ht9 hvm9 hp9 hE9 hz9 hk9 hS9 hc9 hv9 hcl9 => hE9.elim) (fun r_1 u t H1 locs ht hvm hw_2 hB hz1 hk1 hS => ?_)
  obtain ⟨hP1, hK1, hD1⟩ := hB
  rw [ht] at hP1
  try dsimp only at hw_2
  obtain ⟨hP, hD⟩ := va_join (wr := [(xm, .inr (20, [.int 0, .int 0, .ref kn, .int 0, .int 0, .int 0, .ref ml, .ref cl, .ref rg, .ref tR, .ref (aK 0), .ref (aK 0), .ref fl, .int 0, .int 0, .int 0, .int 0, .int 0, .int 0, .int 0, .null]))]) (w1 := []) hP hD [0, 1] [2] rfl rfl (by decide) (by decide) hk1 hFc hP1 hD1
  generalize H1 = H at hP hS ⊢
  have hP : va_P (dC, dI) vwCl [(xm, .inr (20, [.int 0, .int 0, .ref kn, .int 0, .int 0, .int 0, .ref ml, .ref cl, .ref rg, .ref tR, .ref (aK 0), .ref (aK 0), .ref fl, .int 0, .int 0, .int 0, .int 0, .int 0, .int 0, .int 0, .null]))] H := hP
  have hD : va_D A [(xm, .inr (20, [.int 0, .int 0, .ref kn, .int 0, .int 0, .int 0, .ref ml, .ref cl, .ref rg, .ref tR, .ref (aK 0), .ref (aK 0), .ref fl, .int 0, .int 0, .int 0, .int 0, .int 0, .int 0, .int 0, .null]))] := hD
  obtain rfl : r_1 = 0 := hw_2
  refine lv_aload_n hx hb dL_law_2415 rfl (lv_at hl 2 rfl) ?_
  have hPc := hP.sub (ws' := [(xm, .inr (20, [.int 0, .int 0, .ref kn, .int 0, .int 0, .int 0, .ref ml, .ref cl, .ref rg, .ref tR, .ref (aK 0), .ref (aK 0), .ref fl, .int 0, .int 0, .int 0, .int 0, .int 0, .int 0, .int 0, .null]))]) [0] rfl
  have hDc := hD.sub (ws' := [(xm, .inr (20, [.int 0, .int 0, .ref kn, .int 0, .int 0, .int 0, .ref ml, .ref cl, .ref rg, .ref tR, .ref (aK 0), .ref (aK 0), .ref fl, .int 0, .int 0, .int 0, .int 0, .int 0, .int 0, .int 0, .null]))]) [0] (by decide) rfl
  have hKc := hK.sub (tys' := []) [] rfl
  have hFc := va_free (wc := [(xm, .inr (20, [.int 0, .int 0, .ref kn, .int 0, .int 0, .int 0, .ref ml, .ref cl, .ref rg, .ref tR, .ref (aK 0), .ref (aK 0), .ref fl, .int 0, .int 0, .int 0, .int 0, .int 0, .int 0, .int 0, .null]))]) hD hS hA [0] rfl
  refine va_calli (va_runV (As := []) (rest := [.int 0]) ⟨hx, hb, hml, hown, hts⟩ (c_X15_tagLength l dC dI xm ml cl fl kn rg tR e0 aK aV H.size) (cwV 0 hts gL_law_X15_tagLength rfl rfl rfl (by decide +kernel) ⟨Nat.le_of_ble_eq_true rfl, Nat.le_of_ble_eq_true rfl⟩) (pcVz (zM_ok e0 aK aV) hPc hDc hKc hN hZ.2 hS hFc (ci := 20) (q0 := 0) rfl rfl) rfl rfl hl.1 rfl (lv_room (Nat.le_of_ble_eq_true rfl)) dL_law_2416 ⟨Nat.le_of_ble_eq_true rfl, Nat.le_of_ble_eq_true rfl⟩) hS (fun q _ h => hFc q h) hFc (fun r_4 u t H1 locs ht hvm hw_5 hB hz1 hk1 hS => ?_)
  obtain fs_3 := u
  obtain ⟨hP1, hK1, hD1⟩ := hB
  rw [ht] at hP1
  try dsimp only at hw_5
  obtain ⟨hP, hD⟩ := va_join (wr := []) (w1 := [(xm, .inr (20, fs_3))]) hP hD [0] [] rfl rfl (by decide) (by decide) hk1 hFc hP1 hD1
  generalize H1 = H at hP hS ⊢
  have hP : va_P (dC, dI) vwCl [(xm, .inr (20, fs_3))] H := hP
  have hD : va_D A [(xm, .inr (20, fs_3))] := hD
  obtain rfl : r_4 = 0 := hw_5.2
  refine lv_icmp_eq (tgt := 2778) hx hb dL_law_2419 (by decide) (fun c2419_6 => ?_) (fun c2419_6 => ?_)
  · refine W.widen (k := 600006) (n := 7302039) (Nat.le_of_ble_eq_true rfl) (Nat.le_of_ble_eq_true rfl) ?_
    exact law_end hx hb hr hml hX hbl hlocks hbA hAo hS (lv_sub hl [0, 5] rfl)
  · exact (c2419_6 (by decide)).elim

set_option maxHeartbeats 8000000 in
set_option maxRecDepth 100000 in
/-- the law: law_34_tagLetter -/
theorem law_34_tagLetter {p : Program} {e : Env} {s : State} {m : MethodId} {below : List Frame} {meth : Method} {c : Code} {l : Launch} {b : Nat} {xs : Nat → Int32} (hx : p.tables.exec = Jvm.exec) (hb : c.code = cL_law) (hr : meth.sig.returnType = ret) (hml : c.maxLocals = 9) (hfl : l.stackTraces = false) (hown : s.vm.findClass RL = some m.cls) (hts : ∀ w ∈ wsL_law, w.before #[Value.ref b] s = true) (hX : va_X b 7 xs s s.heap) (hbl : b < s.heap.size) (hlocks : meth.locks = false) {A : Nat → Prop} (hbA : ¬ A b) (hAo : ∀ q, A q → s.heap.size ≤ q) (hA : ∀ q : Nat, s.heap.size ≤ q → A q) (dC : Nat → ClassId) (dI : Nat → Nat → Nat) (hN : nwA s) (e0 : Nat) (aK aV : Nat → Nat) (hZ : zX A s s.heap ∧ zM e0 aK aV A s s.heap) (ya ms ju rj tj ro rn tn rh th ca sa da xa wb z1 z2 jt z3 br z4 z5 z6 lk z7 z8 li bm l2 z9 bo h2 mm l1 z10 oo h1 ct cr cu cg cp co tg ts tr tk te fw fo fu xm ml cl fl rg tR ou od kn : Nat) (cI cM cS cL cD cB : ClassId) {H : Heap} {locs : List Loc} (hP : va_P (dC, dI) vwCl [(ya, .inr (16, [.ref ms, .int 0, .ref ju, .ref li, .ref ct, .ref tg, .ref fw])), (tg, .inr (14, [.int 0, .int 0, .ref ts, .ref tr, .ref tk, .ref te])), (ou, .inl (cL, 1, .inr (.inl (fun _ => 0)))), (xm, .inr (20, [.int 0, .int 0, .ref kn, .int 0, .int 0, .int 0, .ref ml, .ref cl, .ref rg, .ref tR, .ref (aK 0), .ref (aK 0), .ref fl, .int 0, .int 0, .int 0, .int 0, .int 0, .int 0, .int 0, .null]))] H) (hD : va_D A [(ya, .inr (16, [.ref ms, .int 0, .ref ju, .ref li, .ref ct, .ref tg, .ref fw])), (tg, .inr (14, [.int 0, .int 0, .ref ts, .ref tr, .ref tk, .ref te])), (ou, .inl (cL, 1, .inr (.inl (fun _ => 0)))), (xm, .inr (20, [.int 0, .int 0, .ref kn, .int 0, .int 0, .int 0, .ref ml, .ref cl, .ref rg, .ref tR, .ref (aK 0), .ref (aK 0), .ref fl, .int 0, .int 0, .int 0, .int 0, .int 0, .int 0, .int 0, .null]))]) (hK : va_K (dC, dI) vwCl [(cL, .long)] s) (hS : va_S A s.heap H locs) {ls : Array Slot} (hl : lv_has ls 9 [(0, .ref b), (1, .ref ya), (2, .ref xm), (3, .ref ou), (4, .ref od), (5, .int 0)]) : W p l e room_1 s m #[Value.ref b] below meth c H locs 200 60000 (lw_Z below #[Value.ref b] s) (F0 m 2424 ls []) := by
  obtain ⟨s1, hs1⟩ : ∃ z, z = xs ((0 : Int32) + 1).toNatClampNeg := ⟨_, rfl⟩
  obtain ⟨s2, hs2⟩ : ∃ z, z = xs ((0 : Int32) + 2).toNatClampNeg := ⟨_, rfl⟩
  obtain ⟨s3, hs3⟩ : ∃ z, z = xs ((0 : Int32) + 3).toNatClampNeg := ⟨_, rfl⟩
  obtain ⟨s4, hs4⟩ : ∃ z, z = xs ((0 : Int32) + 4).toNatClampNeg := ⟨_, rfl⟩
  obtain ⟨s5, hs5⟩ : ∃ z, z = xs ((0 : Int32) + 5).toNatClampNeg := ⟨_, rfl⟩
  obtain ⟨s6, hs6⟩ : ∃ z, z = xs ((0 : Int32) + 6).toNatClampNeg := ⟨_, rfl⟩
  obtain ⟨k1, hk1⟩ : ∃ z, z = (s1.toUInt32 % 65536).toInt32 := ⟨_, rfl⟩
  obtain ⟨k2, hk2⟩ : ∃ z, z = (s2.toUInt32 % 65536).toInt32 := ⟨_, rfl⟩
  obtain ⟨k3, hk3⟩ : ∃ z, z = (s3.toUInt32 % 65536).toInt32 := ⟨_, rfl⟩
  obtain ⟨k4, hk4⟩ : ∃ z, z = (s4.toUInt32 % 65536).toInt32 := ⟨_, rfl⟩
  obtain ⟨k5, hk5⟩ : ∃ z, z = (s5.toUInt32 % 65536).toInt32 := ⟨_, rfl⟩
  obtain ⟨k6, hk6⟩ : ∃ z, z = (s6.toUInt32 % 65536).toInt32 := ⟨_, rfl⟩
  refine lv_aload_n hx hb dL_law_2424 rfl (lv_at hl 1 rfl) ?_
  refine lv_aload_n hx hb dL_law_2425 rfl (lv_at hl 0 rfl) ?_
  refine lv_iload hx hb dL_law_2426 (lv_at hl 5 rfl) ?_
  refine lv_iconst (v := 1) hx hb dL_law_2428 (by decide) ?_
  refine lv_iadd hx hb dL_law_2429 ?_
  refine va_sld hx hb hX hbl hbA hS sx1 dL_law_2430 ?_
  refine lv_topi (fun x_1 ex_1 => ?_)
  obtain rfl : s1 = x_1 := (ex_1.trans hs1.symm).symm
  refine lv_aload_n hx hb dL_law_2431 rfl (lv_at hl 3 rfl) ?_
  have hPc := hP.sub (ws' := [(ya, .inr (16, [.ref ms, .int 0, .ref ju, .ref li, .ref ct, .ref tg, .ref fw])), (tg, .inr (14, [.int 0, .int 0, .ref ts, .ref tr, .ref tk, .ref te])), (ou, .inl (cL, 1, .inr (.inl (fun _ => 0))))]) [0, 1, 2] rfl
  have hDc := hD.sub (ws' := [(ya, .inr (16, [.ref ms, .int 0, .ref ju, .ref li, .ref ct, .ref tg, .ref fw])), (tg, .inr (14, [.int 0, .int 0, .ref ts, .ref tr, .ref tk, .ref te])), (ou, .inl (cL, 1, .inr (.inl (fun _ => 0))))]) [0, 1, 2] (by decide) rfl
  have hKc := hK.sub (tys' := [(cL, .long)]) [0] rfl
  have hFc := va_free (wc := [(ya, .inr (16, [.ref ms, .int 0, .ref ju, .ref li, .ref ct, .ref tg, .ref fw])), (tg, .inr (14, [.int 0, .int 0, .ref ts, .ref tr, .ref tk, .ref te])), (ou, .inl (cL, 1, .inr (.inl (fun _ => 0))))]) hD hS hA [0, 1, 2] rfl
  refine vx_calli (vx_runSX (As := [.ref ya, .int s1, .ref ou]) (rest := []) ⟨hx, hb, hml, hown, hts⟩ (c_L_tagLetter l hfl dC dI ya ms ju li ct tg fw ts tr tk te s1 cL ou (fun _ => 0) H.size) (vx_cwSW 3 hts gL_law_L_tagLetter rfl rfl rfl (by decide +kernel) ⟨Nat.le_of_ble_eq_true rfl, Nat.le_of_ble_eq_true rfl⟩) (pcSz (zX_ok) hPc hDc hKc hN hZ.1 hS hFc) rfl rfl hl.1 rfl (lv_room (Nat.le_of_ble_eq_true rfl)) dL_law_2432 ⟨Nat.le_of_ble_eq_true rfl, Nat.le_of_ble_eq_true rfl⟩) hS (fun q _ h => hFc q h) hFc (fun q _ h => hFc q h) (fun E9 ce9 q9 u9 t9 H9 locs9 ht9 hvm9 hp9 hE9 hz9 hk9 hS9 hc9 hv9 hcl9 => hE9.elim) (fun r_3 u t H1 locs ht hvm hw_4 hB hz1 hk1 hS => ?_)
  obtain of_2 := u
  obtain ⟨hP1, hK1, hD1⟩ := hB
  rw [ht] at hP1
  try dsimp only at hw_4
  obtain ⟨hP, hD⟩ := va_join (wr := [(xm, .inr (20, [.int 0, .int 0, .ref kn, .int 0, .int 0, .int 0, .ref ml, .ref cl, .ref rg, .ref tR, .ref (aK 0), .ref (aK 0), .ref fl, .int 0, .int 0, .int 0, .int 0, .int 0, .int 0, .int 0, .null]))]) (w1 := [(ou, .inl (cL, 1, .inr (.inl of_2)))]) hP hD [0, 1, 2] [3] rfl rfl (by decide) (by decide) hk1 hFc hP1 hD1
  generalize H1 = H at hP hS ⊢
  have hP : va_P (dC, dI) vwCl [(xm, .inr (20, [.int 0, .int 0, .ref kn, .int 0, .int 0, .int 0, .ref ml, .ref cl, .ref rg, .ref tR, .ref (aK 0), .ref (aK 0), .ref fl, .int 0, .int 0, .int 0, .int 0, .int 0, .int 0, .int 0, .null])), (ou, .inl (cL, 1, .inr (.inl of_2)))] H := hP
  have hD : va_D A [(xm, .inr (20, [.int 0, .int 0, .ref kn, .int 0, .int 0, .int 0, .ref ml, .ref cl, .ref rg, .ref tR, .ref (aK 0), .ref (aK 0), .ref fl, .int 0, .int 0, .int 0, .int 0, .int 0, .int 0, .int 0, .null])), (ou, .inl (cL, 1, .inr (.inl of_2)))] := hD
  refine W.widen (k := 201) (n := 60006) (Nat.le_of_ble_eq_true rfl) (Nat.le_of_ble_eq_true rfl) ?_
  obtain rfl : r_3 = 1 := hw_4
  refine lv_istore (lv' := [(6, .int 1), (0, .ref b), (1, .ref ya), (2, .ref xm), (3, .ref ou), (4, .ref od), (5, .int 0)]) hx hb dL_law_2435 hl (by decide) rfl (fun ls hl => ?_)
  refine lv_aload_n hx hb dL_law_2437 rfl (lv_at hl 3 rfl) ?_
  refine lv_aload_n hx hb dL_law_2438 rfl (lv_at hl 1 rfl) ?_
  refine lv_iload hx hb dL_law_2439 (lv_at hl 6 rfl) ?_
  refine lv_iconst (v := 1) hx hb dL_law_2441 (by decide) ?_
  refine lv_iadd hx hb dL_law_2442 ?_
  refine va_sld hx hb hX hbl hbA hS sx1 dL_law_2443 ?_
  refine lv_topi (fun x_5 ex_5 => ?_)
  obtain rfl : s1 = x_5 := (ex_5.trans hs1.symm).symm
  have hPc := hP.sub (ws' := [(xm, .inr (20, [.int 0, .int 0, .ref kn, .int 0, .int 0, .int 0, .ref ml, .ref cl, .ref rg, .ref tR, .ref (aK 0), .ref (aK 0), .ref fl, .int 0, .int 0, .int 0, .int 0, .int 0, .int 0, .int 0, .null]))]) [0] rfl
  have hDc := hD.sub (ws' := [(xm, .inr (20, [.int 0, .int 0, .ref kn, .int 0, .int 0, .int 0, .ref ml, .ref cl, .ref rg, .ref tR, .ref (aK 0), .ref (aK 0), .ref fl, .int 0, .int 0, .int 0, .int 0, .int 0, .int 0, .int 0, .null]))]) [0] (by decide) rfl
  have hKc := hK.sub (tys' := []) [] rfl
  have hFc := va_free (wc := [(xm, .inr (20, [.int 0, .int 0, .ref kn, .int 0, .int 0, .int 0, .ref ml, .ref cl, .ref rg, .ref tR, .ref (aK 0), .ref (aK 0), .ref fl, .int 0, .int 0, .int 0, .int 0, .int 0, .int 0, .int 0, .null]))]) hD hS hA [0] rfl
  refine va_calli (va_runV (As := [.int s1]) (rest := []) ⟨hx, hb, hml, hown, hts⟩ (c_X15_tagLetter l dC dI xm ml cl fl kn rg tR e0 aK aV s1 H.size) (cwV 1 hts gL_law_X15_tagLetter rfl rfl rfl (by decide +kernel) ⟨Nat.le_of_ble_eq_true rfl, Nat.le_of_ble_eq_true rfl⟩) (pcVz (zM_ok e0 aK aV) hPc hDc hKc hN hZ.2 hS hFc (ci := 20) (q0 := 0) rfl rfl) rfl rfl hl.1 rfl (lv_room (Nat.le_of_ble_eq_true rfl)) dL_law_2444 ⟨Nat.le_of_ble_eq_true rfl, Nat.le_of_ble_eq_true rfl⟩) hS (fun q _ h => hFc q h) hFc (fun r_7 u t H1 locs ht hvm hw_8 hB hz1 hk1 hS => ?_)
  obtain fs_6 := u
  obtain ⟨hP1, hK1, hD1⟩ := hB
  rw [ht] at hP1
  try dsimp only at hw_8
  obtain ⟨hP, hD⟩ := va_join (wr := [(ou, .inl (cL, 1, .inr (.inl of_2)))]) (w1 := [(xm, .inr (20, fs_6))]) hP hD [0] [1] rfl rfl (by decide) (by decide) hk1 hFc hP1 hD1
  generalize H1 = H at hP hS ⊢
  have hP : va_P (dC, dI) vwCl [(ou, .inl (cL, 1, .inr (.inl of_2))), (xm, .inr (20, fs_6))] H := hP
  have hD : va_D A [(ou, .inl (cL, 1, .inr (.inl of_2))), (xm, .inr (20, fs_6))] := hD
  refine lv_istore (lv' := [(7, .int r_7), (6, .int 1), (0, .ref b), (1, .ref ya), (2, .ref xm), (3, .ref ou), (4, .ref od), (5, .int 0)]) hx hb dL_law_2447 hl (by decide) rfl (fun ls hl => ?_)
  refine lv_aload_n hx hb dL_law_2449 rfl (lv_at hl 4 rfl) ?_
  have hPc := hP.sub (ws' := [(xm, .inr (20, fs_6))]) [1] rfl
  have hDc := hD.sub (ws' := [(xm, .inr (20, fs_6))]) [1] (by decide) rfl
  have hKc := hK.sub (tys' := []) [] rfl
  have hFc := va_free (wc := [(xm, .inr (20, fs_6))]) hD hS hA [1] rfl
  refine va_calli (va_runV (As := []) (rest := []) ⟨hx, hb, hml, hown, hts⟩ (c_X15_thrown l dC dI xm fs_6 1 hw_8 H.size) (cwV 0 hts gL_law_X15_thrown rfl rfl rfl (by decide +kernel) ⟨Nat.le_of_ble_eq_true rfl, Nat.le_of_ble_eq_true rfl⟩) (pcV hPc hDc hKc hN (ci := 20) (q0 := 0) rfl rfl) rfl rfl hl.1 rfl (lv_room (Nat.le_of_ble_eq_true rfl)) dL_law_2450 ⟨Nat.le_of_ble_eq_true rfl, Nat.le_of_ble_eq_true rfl⟩) hS (fun q _ h => hFc q h) hFc (fun r_9 u t H1 locs ht hvm hw_10 hB hz1 hk1 hS => ?_)
  obtain ⟨hP1, hK1, hD1⟩ := hB
  rw [ht] at hP1
  try dsimp only at hw_10
  obtain ⟨hP, hD⟩ := va_join (wr := [(ou, .inl (cL, 1, .inr (.inl of_2)))]) (w1 := []) hP hD [1] [0] rfl rfl (by decide) (by decide) hk1 hFc hP1 hD1
  generalize H1 = H at hP hS ⊢
  have hP : va_P (dC, dI) vwCl [(ou, .inl (cL, 1, .inr (.inl of_2)))] H := hP
  have hD : va_D A [(ou, .inl (cL, 1, .inr (.inl of_2)))] := hD
  obtain rfl : r_9 = 1 := hw_10
  refine lv_iload hx hb dL_law_2453 (lv_at hl 1 rfl) ?_
  refine lv_icmp_eq (tgt := 2460) hx hb dL_law_2455 (by decide) (fun c2455_11 => ?_) (fun c2455_11 => ?_)
  · refine lv_iload hx hb dL_law_2460 (lv_at hl 1 rfl) ?_
    refine lv_if_ne (tgt := 2477) hx hb dL_law_2462 (by decide) (fun c2462_12 => ?_) (fun c2462_12 => ?_)
    · refine lv_goto (tgt := 2778) hx hb dL_law_2477 (by decide) ?_
      refine W.widen (k := 600006) (n := 7302039) (Nat.le_of_ble_eq_true rfl) (Nat.le_of_ble_eq_true rfl) ?_
      exact law_end hx hb hr hml hX hbl hlocks hbA hAo hS (lv_sub hl [2, 7] rfl)
    · exact absurd c2462_12 (by decide)
  · exact (c2455_11 (by decide)).elim

set_option maxHeartbeats 8000000 in
set_option maxRecDepth 100000 in
/-- the law: law_35_fraction -/
theorem law_35_fraction {p : Program} {e : Env} {s : State} {m : MethodId} {below : List Frame} {meth : Method} {c : Code} {l : Launch} {b : Nat} {xs : Nat → Int32} (hx : p.tables.exec = Jvm.exec) (hb : c.code = cL_law) (hr : meth.sig.returnType = ret) (hml : c.maxLocals = 9) (hfl : l.stackTraces = false) (hown : s.vm.findClass RL = some m.cls) (hts : ∀ w ∈ wsL_law, w.before #[Value.ref b] s = true) (hX : va_X b 7 xs s s.heap) (hbl : b < s.heap.size) (hlocks : meth.locks = false) {A : Nat → Prop} (hbA : ¬ A b) (hAo : ∀ q, A q → s.heap.size ≤ q) (hA : ∀ q : Nat, s.heap.size ≤ q → A q) (dC : Nat → ClassId) (dI : Nat → Nat → Nat) (hN : nwA s) (e0 : Nat) (aK aV : Nat → Nat) (hZ : zX A s s.heap ∧ zM e0 aK aV A s s.heap) (ya ms ju rj tj ro rn tn rh th ca sa da xa wb z1 z2 jt z3 br z4 z5 z6 lk z7 z8 li bm l2 z9 bo h2 mm l1 z10 oo h1 ct cr cu cg cp co tg ts tr tk te fw fo fu xm ml cl fl rg tR ou od kn : Nat) (cI cM cS cL cD cB : ClassId) {H : Heap} {locs : List Loc} (hP : va_P (dC, dI) vwCl [(ya, .inr (16, [.ref ms, .int 0, .ref ju, .ref li, .ref ct, .ref tg, .ref fw])), (fw, .inr (6, [.int 0, .int 0, .int 0, .long 0, .ref fo, .ref fu])), (fo, .inl (cI, 10, .inl (fun _ => 0))), (fu, .inl (cI, 10, .inl (fun _ => 0))), (ou, .inl (cL, 1, .inr (.inl (fun _ => 0)))), (xm, .inr (20, [.int 0, .int 0, .ref kn, .int 0, .int 0, .int 0, .ref ml, .ref cl, .ref rg, .ref tR, .ref (aK 0), .ref (aK 0), .ref fl, .int 0, .int 0, .int 0, .int 0, .int 0, .int 0, .int 0, .null])), (fl, .inr (4, [.int 0, .ref e0, .int 0]))] H) (hD : va_D A [(ya, .inr (16, [.ref ms, .int 0, .ref ju, .ref li, .ref ct, .ref tg, .ref fw])), (fw, .inr (6, [.int 0, .int 0, .int 0, .long 0, .ref fo, .ref fu])), (fo, .inl (cI, 10, .inl (fun _ => 0))), (fu, .inl (cI, 10, .inl (fun _ => 0))), (ou, .inl (cL, 1, .inr (.inl (fun _ => 0)))), (xm, .inr (20, [.int 0, .int 0, .ref kn, .int 0, .int 0, .int 0, .ref ml, .ref cl, .ref rg, .ref tR, .ref (aK 0), .ref (aK 0), .ref fl, .int 0, .int 0, .int 0, .int 0, .int 0, .int 0, .int 0, .null])), (fl, .inr (4, [.int 0, .ref e0, .int 0]))]) (hK : va_K (dC, dI) vwCl [(cI, .int), (cL, .long)] s) (hS : va_S A s.heap H locs) {ls : Array Slot} (hl : lv_has ls 9 [(0, .ref b), (1, .ref ya), (2, .ref xm), (3, .ref ou), (4, .ref od), (5, .int 0)]) : W p l e room_1 s m #[Value.ref b] below meth c H locs 200 60000 (lw_Z below #[Value.ref b] s) (F0 m 2480 ls []) := by
  obtain ⟨s1, hs1⟩ : ∃ z, z = xs ((0 : Int32) + 1).toNatClampNeg := ⟨_, rfl⟩
  obtain ⟨s2, hs2⟩ : ∃ z, z = xs ((0 : Int32) + 2).toNatClampNeg := ⟨_, rfl⟩
  obtain ⟨s3, hs3⟩ : ∃ z, z = xs ((0 : Int32) + 3).toNatClampNeg := ⟨_, rfl⟩
  obtain ⟨s4, hs4⟩ : ∃ z, z = xs ((0 : Int32) + 4).toNatClampNeg := ⟨_, rfl⟩
  obtain ⟨s5, hs5⟩ : ∃ z, z = xs ((0 : Int32) + 5).toNatClampNeg := ⟨_, rfl⟩
  obtain ⟨s6, hs6⟩ : ∃ z, z = xs ((0 : Int32) + 6).toNatClampNeg := ⟨_, rfl⟩
  obtain ⟨k1, hk1⟩ : ∃ z, z = (s1.toUInt32 % 65536).toInt32 := ⟨_, rfl⟩
  obtain ⟨k2, hk2⟩ : ∃ z, z = (s2.toUInt32 % 65536).toInt32 := ⟨_, rfl⟩
  obtain ⟨k3, hk3⟩ : ∃ z, z = (s3.toUInt32 % 65536).toInt32 := ⟨_, rfl⟩
  obtain ⟨k4, hk4⟩ : ∃ z, z = (s4.toUInt32 % 65536).toInt32 := ⟨_, rfl⟩
  obtain ⟨k5, hk5⟩ : ∃ z, z = (s5.toUInt32 % 65536).toInt32 := ⟨_, rfl⟩
  obtain ⟨k6, hk6⟩ : ∃ z, z = (s6.toUInt32 % 65536).toInt32 := ⟨_, rfl⟩
  refine lv_aload_n hx hb dL_law_2480 rfl (lv_at hl 1 rfl) ?_
  refine lv_aload_n hx hb dL_law_2481 rfl (lv_at hl 0 rfl) ?_
  refine lv_iload hx hb dL_law_2482 (lv_at hl 5 rfl) ?_
  refine lv_iconst (v := 1) hx hb dL_law_2484 (by decide) ?_
  refine lv_iadd hx hb dL_law_2485 ?_
  refine va_sld hx hb hX hbl hbA hS sx1 dL_law_2486 ?_
  refine lv_topi (fun x_1 ex_1 => ?_)
  obtain rfl : s1 = x_1 := (ex_1.trans hs1.symm).symm
  refine lv_aload_n hx hb dL_law_2487 rfl (lv_at hl 0 rfl) ?_
  refine lv_iload hx hb dL_law_2488 (lv_at hl 5 rfl) ?_
  refine lv_iconst (v := 2) hx hb dL_law_2490 (by decide) ?_
  refine lv_iadd hx hb dL_law_2491 ?_
  refine va_sld hx hb hX hbl hbA hS sx2 dL_law_2492 ?_
  refine lv_topi (fun x_2 ex_2 => ?_)
  obtain rfl : s2 = x_2 := (ex_2.trans hs2.symm).symm
  refine lv_aload_n hx hb dL_law_2493 rfl (lv_at hl 3 rfl) ?_
  have hPc := hP.sub (ws' := [(ya, .inr (16, [.ref ms, .int 0, .ref ju, .ref li, .ref ct, .ref tg, .ref fw])), (fw, .inr (6, [.int 0, .int 0, .int 0, .long 0, .ref fo, .ref fu])), (fo, .inl (cI, 10, .inl (fun _ => 0))), (fu, .inl (cI, 10, .inl (fun _ => 0))), (ou, .inl (cL, 1, .inr (.inl (fun _ => 0))))]) [0, 1, 2, 3, 4] rfl
  have hDc := hD.sub (ws' := [(ya, .inr (16, [.ref ms, .int 0, .ref ju, .ref li, .ref ct, .ref tg, .ref fw])), (fw, .inr (6, [.int 0, .int 0, .int 0, .long 0, .ref fo, .ref fu])), (fo, .inl (cI, 10, .inl (fun _ => 0))), (fu, .inl (cI, 10, .inl (fun _ => 0))), (ou, .inl (cL, 1, .inr (.inl (fun _ => 0))))]) [0, 1, 2, 3, 4] (by decide) rfl
  have hKc := hK.sub (tys' := [(cI, .int), (cL, .long)]) [0, 1] rfl
  have hFc := va_free (wc := [(ya, .inr (16, [.ref ms, .int 0, .ref ju, .ref li, .ref ct, .ref tg, .ref fw])), (fw, .inr (6, [.int 0, .int 0, .int 0, .long 0, .ref fo, .ref fu])), (fo, .inl (cI, 10, .inl (fun _ => 0))), (fu, .inl (cI, 10, .inl (fun _ => 0))), (ou, .inl (cL, 1, .inr (.inl (fun _ => 0))))]) hD hS hA [0, 1, 2, 3, 4] rfl
  refine vx_calli (vx_runSX (As := [.ref ya, .int s1, .int s2, .ref ou]) (rest := []) ⟨hx, hb, hml, hown, hts⟩ (c_L_fraction l hfl dC dI cI ya ms ju li ct tg fw fo fu 0 0 0 (fun _ => 0) (fun _ => 0) s1 s2 cL ou (fun _ => 0) H.size) (vx_cwSW 4 hts gL_law_L_fraction rfl rfl rfl (by decide +kernel) ⟨Nat.le_of_ble_eq_true rfl, Nat.le_of_ble_eq_true rfl⟩) (pcSz (zX_ok) hPc hDc hKc hN hZ.1 hS hFc) rfl rfl hl.1 rfl (lv_room (Nat.le_of_ble_eq_true rfl)) dL_law_2494 ⟨Nat.le_of_ble_eq_true rfl, Nat.le_of_ble_eq_true rfl⟩) hS (fun q _ h => hFc q h) hFc (fun q _ h => hFc q h) (fun E9 ce9 q9 u9 t9 H9 locs9 ht9 hvm9 hp9 hE9 hz9 hk9 hS9 hc9 hv9 hcl9 => hE9.elim) (fun r_4 u t H1 locs ht hvm hw_5 hB hz1 hk1 hS => ?_)
  obtain of_3 := u
  obtain ⟨hP1, hK1, hD1⟩ := hB
  rw [ht] at hP1
  try dsimp only at hw_5
  obtain ⟨hP, hD⟩ := va_join (wr := [(xm, .inr (20, [.int 0, .int 0, .ref kn, .int 0, .int 0, .int 0, .ref ml, .ref cl, .ref rg, .ref tR, .ref (aK 0), .ref (aK 0), .ref fl, .int 0, .int 0, .int 0, .int 0, .int 0, .int 0, .int 0, .null])), (fl, .inr (4, [.int 0, .ref e0, .int 0]))]) (w1 := [(ou, .inl (cL, 1, .inr (.inl of_3)))]) hP hD [0, 1, 2, 3, 4] [5, 6] rfl rfl (by decide) (by decide) hk1 hFc hP1 hD1
  generalize H1 = H at hP hS ⊢
  have hP : va_P (dC, dI) vwCl [(xm, .inr (20, [.int 0, .int 0, .ref kn, .int 0, .int 0, .int 0, .ref ml, .ref cl, .ref rg, .ref tR, .ref (aK 0), .ref (aK 0), .ref fl, .int 0, .int 0, .int 0, .int 0, .int 0, .int 0, .int 0, .null])), (fl, .inr (4, [.int 0, .ref e0, .int 0])), (ou, .inl (cL, 1, .inr (.inl of_3)))] H := hP
  have hD : va_D A [(xm, .inr (20, [.int 0, .int 0, .ref kn, .int 0, .int 0, .int 0, .ref ml, .ref cl, .ref rg, .ref tR, .ref (aK 0), .ref (aK 0), .ref fl, .int 0, .int 0, .int 0, .int 0, .int 0, .int 0, .int 0, .null])), (fl, .inr (4, [.int 0, .ref e0, .int 0])), (ou, .inl (cL, 1, .inr (.inl of_3)))] := hD
  refine W.widen (k := 201) (n := 60006) (Nat.le_of_ble_eq_true rfl) (Nat.le_of_ble_eq_true rfl) ?_
  rcases hw_5 with ⟨hr0, hPP, hv0⟩ | ⟨hr0, hPP⟩
  · obtain rfl : r_4 = 0 := hr0
    refine lv_istore (lv' := [(6, .int 0), (0, .ref b), (1, .ref ya), (2, .ref xm), (3, .ref ou), (4, .ref od), (5, .int 0)]) hx hb dL_law_2497 hl (by decide) rfl (fun ls hl => ?_)
    refine lv_aload_n hx hb dL_law_2499 rfl (lv_at hl 3 rfl) ?_
    refine lv_aload_n hx hb dL_law_2500 rfl (lv_at hl 1 rfl) ?_
    refine lv_iload hx hb dL_law_2501 (lv_at hl 6 rfl) ?_
    refine lv_iconst (v := 1) hx hb dL_law_2503 (by decide) ?_
    refine lv_iadd hx hb dL_law_2504 ?_
    refine va_sld hx hb hX hbl hbA hS sx1 dL_law_2505 ?_
    refine lv_topi (fun x_6 ex_6 => ?_)
    obtain rfl : s1 = x_6 := (ex_6.trans hs1.symm).symm
    refine lv_aload_n hx hb dL_law_2506 rfl (lv_at hl 1 rfl) ?_
    refine lv_iload hx hb dL_law_2507 (lv_at hl 6 rfl) ?_
    refine lv_iconst (v := 2) hx hb dL_law_2509 (by decide) ?_
    refine lv_iadd hx hb dL_law_2510 ?_
    refine va_sld hx hb hX hbl hbA hS sx2 dL_law_2511 ?_
    refine lv_topi (fun x_7 ex_7 => ?_)
    obtain rfl : s2 = x_7 := (ex_7.trans hs2.symm).symm
    have hPc := hP.sub (ws' := [(xm, .inr (20, [.int 0, .int 0, .ref kn, .int 0, .int 0, .int 0, .ref ml, .ref cl, .ref rg, .ref tR, .ref (aK 0), .ref (aK 0), .ref fl, .int 0, .int 0, .int 0, .int 0, .int 0, .int 0, .int 0, .null])), (fl, .inr (4, [.int 0, .ref e0, .int 0]))]) [0, 1] rfl
    have hDc := hD.sub (ws' := [(xm, .inr (20, [.int 0, .int 0, .ref kn, .int 0, .int 0, .int 0, .ref ml, .ref cl, .ref rg, .ref tR, .ref (aK 0), .ref (aK 0), .ref fl, .int 0, .int 0, .int 0, .int 0, .int 0, .int 0, .int 0, .null])), (fl, .inr (4, [.int 0, .ref e0, .int 0]))]) [0, 1] (by decide) rfl
    have hKc := hK.sub (tys' := [(cI, .int)]) [0] rfl
    have hFc := va_free (wc := [(xm, .inr (20, [.int 0, .int 0, .ref kn, .int 0, .int 0, .int 0, .ref ml, .ref cl, .ref rg, .ref tR, .ref (aK 0), .ref (aK 0), .ref fl, .int 0, .int 0, .int 0, .int 0, .int 0, .int 0, .int 0, .null])), (fl, .inr (4, [.int 0, .ref e0, .int 0]))]) hD hS hA [0, 1] rfl
    refine va_calli (va_runV (As := [.int s1, .int s2]) (rest := []) ⟨hx, hb, hml, hown, hts⟩ (c_X15_fraction l dC dI xm ml cl fl kn rg tR e0 aK aV cI s1 s2 H.size) (cwV 2 hts gL_law_X15_fraction rfl rfl rfl (by decide +kernel) ⟨Nat.le_of_ble_eq_true rfl, Nat.le_of_ble_eq_true rfl⟩) (pcVz (zM_ok e0 aK aV) hPc hDc hKc hN hZ.2 hS hFc (ci := 20) (q0 := 0) rfl rfl) rfl rfl hl.1 rfl (lv_room (Nat.le_of_ble_eq_true rfl)) dL_law_2512 ⟨Nat.le_of_ble_eq_true rfl, Nat.le_of_ble_eq_true rfl⟩) hS (fun q _ h => hFc q h) hFc (fun r_9 u t H1 locs ht hvm hw_10 hB hz1 hk1 hS => ?_)
    obtain fs_8 := u
    obtain ⟨hP1, hK1, hD1⟩ := hB
    rw [ht] at hP1
    try dsimp only at hw_10
    obtain ⟨hP, hD⟩ := va_join (wr := [(ou, .inl (cL, 1, .inr (.inl of_3)))]) (w1 := [(xm, .inr (20, fs_8))]) hP hD [0, 1] [2] rfl rfl (by decide) (by decide) hk1 hFc hP1 hD1
    generalize H1 = H at hP hS ⊢
    have hP : va_P (dC, dI) vwCl [(ou, .inl (cL, 1, .inr (.inl of_3))), (xm, .inr (20, fs_8))] H := hP
    have hD : va_D A [(ou, .inl (cL, 1, .inr (.inl of_3))), (xm, .inr (20, fs_8))] := hD
    refine W.widen (k := 203) (n := 60018) (Nat.le_of_ble_eq_true rfl) (Nat.le_of_ble_eq_true rfl) ?_
    obtain ⟨ht9, hrv⟩ := hw_10.elim (fun h => h.2) (fun h => absurd hPP h.1)
    obtain rfl : r_9 = 1 := hrv
    refine lv_istore (lv' := [(7, .int 1), (6, .int 0), (0, .ref b), (1, .ref ya), (2, .ref xm), (3, .ref ou), (4, .ref od), (5, .int 0)]) hx hb dL_law_2515 hl (by decide) rfl (fun ls hl => ?_)
    refine lv_aload_n hx hb dL_law_2517 rfl (lv_at hl 4 rfl) ?_
    have hPc := hP.sub (ws' := [(xm, .inr (20, fs_8))]) [1] rfl
    have hDc := hD.sub (ws' := [(xm, .inr (20, fs_8))]) [1] (by decide) rfl
    have hKc := hK.sub (tys' := []) [] rfl
    have hFc := va_free (wc := [(xm, .inr (20, fs_8))]) hD hS hA [1] rfl
    refine va_calli (va_runV (As := []) (rest := []) ⟨hx, hb, hml, hown, hts⟩ (c_X15_thrown l dC dI xm fs_8 0 ht9 H.size) (cwV 0 hts gL_law_X15_thrown rfl rfl rfl (by decide +kernel) ⟨Nat.le_of_ble_eq_true rfl, Nat.le_of_ble_eq_true rfl⟩) (pcV hPc hDc hKc hN (ci := 20) (q0 := 0) rfl rfl) rfl rfl hl.1 rfl (lv_room (Nat.le_of_ble_eq_true rfl)) dL_law_2518 ⟨Nat.le_of_ble_eq_true rfl, Nat.le_of_ble_eq_true rfl⟩) hS (fun q _ h => hFc q h) hFc (fun r_11 u t H1 locs ht hvm hw_12 hB hz1 hk1 hS => ?_)
    obtain ⟨hP1, hK1, hD1⟩ := hB
    rw [ht] at hP1
    try dsimp only at hw_12
    obtain ⟨hP, hD⟩ := va_join (wr := [(ou, .inl (cL, 1, .inr (.inl of_3)))]) (w1 := []) hP hD [1] [0] rfl rfl (by decide) (by decide) hk1 hFc hP1 hD1
    generalize H1 = H at hP hS ⊢
    have hP : va_P (dC, dI) vwCl [(ou, .inl (cL, 1, .inr (.inl of_3)))] H := hP
    have hD : va_D A [(ou, .inl (cL, 1, .inr (.inl of_3)))] := hD
    obtain rfl : r_11 = 0 := hw_12
    refine lv_iload hx hb dL_law_2521 (lv_at hl 1 rfl) ?_
    refine lv_icmp_eq (tgt := 2528) hx hb dL_law_2523 (by decide) (fun c2523_13 => ?_) (fun c2523_13 => ?_)
    · refine lv_iload hx hb dL_law_2528 (lv_at hl 1 rfl) ?_
      refine lv_if_ne (tgt := 2545) hx hb dL_law_2530 (by decide) (fun c2530_14 => ?_) (fun c2530_14 => ?_)
      · exact (c2530_14 (by decide)).elim
      · refine lv_aload_n hx hb dL_law_2533 rfl (lv_at hl 5 rfl) ?_
        refine lv_iconst (v := 0) hx hb dL_law_2534 (by decide) ?_
        refine va_lald hx hb hK hP 0 1 rfl rfl (show vp_in (nI 0) 1 from vp_in_nI (by decide) (by decide)) dL_law_2535 ?_
        refine lv_topl (fun z_15 ez_15 => ?_)
        obtain rfl : z_15 = (1 : Int32).toInt64 := by rw [ez_15, show (0 : Int32).toNatClampNeg = 0 from by decide]; exact hv0
        refine lv_iload hx hb dL_law_2536 (lv_at hl 0 rfl) ?_
        refine lv_i2l hx hb dL_law_2538 rfl ?_
        refine W.lcmp hx hb dL_law_2539 ?_
        refine lv_if_eq (tgt := 2545) hx hb dL_law_2540 (by decide) (fun c2540_16 => ?_) (fun c2540_16 => ?_)
        · refine lv_goto (tgt := 2778) hx hb dL_law_2545 (by decide) ?_
          refine W.widen (k := 600006) (n := 7302039) (Nat.le_of_ble_eq_true rfl) (Nat.le_of_ble_eq_true rfl) ?_
          exact law_end hx hb hr hml hX hbl hlocks hbA hAo hS (lv_sub hl [2, 7] rfl)
        · exact absurd ((lg_cmp_eq _ _).mpr rfl) c2540_16
    · exact (c2523_13 (by decide)).elim
  · obtain rfl : r_4 = 1 := hr0
    refine lv_istore (lv' := [(6, .int 1), (0, .ref b), (1, .ref ya), (2, .ref xm), (3, .ref ou), (4, .ref od), (5, .int 0)]) hx hb dL_law_2497 hl (by decide) rfl (fun ls hl => ?_)
    refine lv_aload_n hx hb dL_law_2499 rfl (lv_at hl 3 rfl) ?_
    refine lv_aload_n hx hb dL_law_2500 rfl (lv_at hl 1 rfl) ?_
    refine lv_iload hx hb dL_law_2501 (lv_at hl 6 rfl) ?_
    refine lv_iconst (v := 1) hx hb dL_law_2503 (by decide) ?_
    refine lv_iadd hx hb dL_law_2504 ?_
    refine va_sld hx hb hX hbl hbA hS sx1 dL_law_2505 ?_
    refine lv_topi (fun x_17 ex_17 => ?_)
    obtain rfl : s1 = x_17 := (ex_17.trans hs1.symm).symm
    refine lv_aload_n hx hb dL_law_2506 rfl (lv_at hl 1 rfl) ?_
    refine lv_iload hx hb dL_law_2507 (lv_at hl 6 rfl) ?_
    refine lv_iconst (v := 2) hx hb dL_law_2509 (by decide) ?_
    refine lv_iadd hx hb dL_law_2510 ?_
    refine va_sld hx hb hX hbl hbA hS sx2 dL_law_2511 ?_
    refine lv_topi (fun x_18 ex_18 => ?_)
    obtain rfl : s2 = x_18 := (ex_18.trans hs2.symm).symm
    have hPc := hP.sub (ws' := [(xm, .inr (20, [.int 0, .int 0, .ref kn, .int 0, .int 0, .int 0, .ref ml, .ref cl, .ref rg, .ref tR, .ref (aK 0), .ref (aK 0), .ref fl, .int 0, .int 0, .int 0, .int 0, .int 0, .int 0, .int 0, .null])), (fl, .inr (4, [.int 0, .ref e0, .int 0]))]) [0, 1] rfl
    have hDc := hD.sub (ws' := [(xm, .inr (20, [.int 0, .int 0, .ref kn, .int 0, .int 0, .int 0, .ref ml, .ref cl, .ref rg, .ref tR, .ref (aK 0), .ref (aK 0), .ref fl, .int 0, .int 0, .int 0, .int 0, .int 0, .int 0, .int 0, .null])), (fl, .inr (4, [.int 0, .ref e0, .int 0]))]) [0, 1] (by decide) rfl
    have hKc := hK.sub (tys' := [(cI, .int)]) [0] rfl
    have hFc := va_free (wc := [(xm, .inr (20, [.int 0, .int 0, .ref kn, .int 0, .int 0, .int 0, .ref ml, .ref cl, .ref rg, .ref tR, .ref (aK 0), .ref (aK 0), .ref fl, .int 0, .int 0, .int 0, .int 0, .int 0, .int 0, .int 0, .null])), (fl, .inr (4, [.int 0, .ref e0, .int 0]))]) hD hS hA [0, 1] rfl
    refine va_calli (va_runV (As := [.int s1, .int s2]) (rest := []) ⟨hx, hb, hml, hown, hts⟩ (c_X15_fraction l dC dI xm ml cl fl kn rg tR e0 aK aV cI s1 s2 H.size) (cwV 2 hts gL_law_X15_fraction rfl rfl rfl (by decide +kernel) ⟨Nat.le_of_ble_eq_true rfl, Nat.le_of_ble_eq_true rfl⟩) (pcVz (zM_ok e0 aK aV) hPc hDc hKc hN hZ.2 hS hFc (ci := 20) (q0 := 0) rfl rfl) rfl rfl hl.1 rfl (lv_room (Nat.le_of_ble_eq_true rfl)) dL_law_2512 ⟨Nat.le_of_ble_eq_true rfl, Nat.le_of_ble_eq_true rfl⟩) hS (fun q _ h => hFc q h) hFc (fun r_20 u t H1 locs ht hvm hw_21 hB hz1 hk1 hS => ?_)
    obtain fs_19 := u
    obtain ⟨hP1, hK1, hD1⟩ := hB
    rw [ht] at hP1
    try dsimp only at hw_21
    obtain ⟨hP, hD⟩ := va_join (wr := [(ou, .inl (cL, 1, .inr (.inl of_3)))]) (w1 := [(xm, .inr (20, fs_19))]) hP hD [0, 1] [2] rfl rfl (by decide) (by decide) hk1 hFc hP1 hD1
    generalize H1 = H at hP hS ⊢
    have hP : va_P (dC, dI) vwCl [(ou, .inl (cL, 1, .inr (.inl of_3))), (xm, .inr (20, fs_19))] H := hP
    have hD : va_D A [(ou, .inl (cL, 1, .inr (.inl of_3))), (xm, .inr (20, fs_19))] := hD
    refine W.widen (k := 203) (n := 60018) (Nat.le_of_ble_eq_true rfl) (Nat.le_of_ble_eq_true rfl) ?_
    have ht9 := hw_21.elim (fun h => absurd h.1 hPP) (fun h => h.2)
    refine lv_istore (lv' := [(7, .int r_20), (6, .int 1), (0, .ref b), (1, .ref ya), (2, .ref xm), (3, .ref ou), (4, .ref od), (5, .int 0)]) hx hb dL_law_2515 hl (by decide) rfl (fun ls hl => ?_)
    refine lv_aload_n hx hb dL_law_2517 rfl (lv_at hl 4 rfl) ?_
    have hPc := hP.sub (ws' := [(xm, .inr (20, fs_19))]) [1] rfl
    have hDc := hD.sub (ws' := [(xm, .inr (20, fs_19))]) [1] (by decide) rfl
    have hKc := hK.sub (tys' := []) [] rfl
    have hFc := va_free (wc := [(xm, .inr (20, fs_19))]) hD hS hA [1] rfl
    refine va_calli (va_runV (As := []) (rest := []) ⟨hx, hb, hml, hown, hts⟩ (c_X15_thrown l dC dI xm fs_19 1 ht9 H.size) (cwV 0 hts gL_law_X15_thrown rfl rfl rfl (by decide +kernel) ⟨Nat.le_of_ble_eq_true rfl, Nat.le_of_ble_eq_true rfl⟩) (pcV hPc hDc hKc hN (ci := 20) (q0 := 0) rfl rfl) rfl rfl hl.1 rfl (lv_room (Nat.le_of_ble_eq_true rfl)) dL_law_2518 ⟨Nat.le_of_ble_eq_true rfl, Nat.le_of_ble_eq_true rfl⟩) hS (fun q _ h => hFc q h) hFc (fun r_22 u t H1 locs ht hvm hw_23 hB hz1 hk1 hS => ?_)
    obtain ⟨hP1, hK1, hD1⟩ := hB
    rw [ht] at hP1
    try dsimp only at hw_23
    obtain ⟨hP, hD⟩ := va_join (wr := [(ou, .inl (cL, 1, .inr (.inl of_3)))]) (w1 := []) hP hD [1] [0] rfl rfl (by decide) (by decide) hk1 hFc hP1 hD1
    generalize H1 = H at hP hS ⊢
    have hP : va_P (dC, dI) vwCl [(ou, .inl (cL, 1, .inr (.inl of_3)))] H := hP
    have hD : va_D A [(ou, .inl (cL, 1, .inr (.inl of_3)))] := hD
    obtain rfl : r_22 = 1 := hw_23
    refine lv_iload hx hb dL_law_2521 (lv_at hl 1 rfl) ?_
    refine lv_icmp_eq (tgt := 2528) hx hb dL_law_2523 (by decide) (fun c2523_24 => ?_) (fun c2523_24 => ?_)
    · refine lv_iload hx hb dL_law_2528 (lv_at hl 1 rfl) ?_
      refine lv_if_ne (tgt := 2545) hx hb dL_law_2530 (by decide) (fun c2530_25 => ?_) (fun c2530_25 => ?_)
      · refine lv_goto (tgt := 2778) hx hb dL_law_2545 (by decide) ?_
        refine W.widen (k := 600006) (n := 7302039) (Nat.le_of_ble_eq_true rfl) (Nat.le_of_ble_eq_true rfl) ?_
        exact law_end hx hb hr hml hX hbl hlocks hbA hAo hS (lv_sub hl [2, 7] rfl)
      · exact absurd c2530_25 (by decide)
    · exact (c2523_24 (by decide)).elim

set_option maxHeartbeats 8000000 in
set_option maxRecDepth 100000 in
/-- the law: law_36_unwalk -/
theorem law_36_unwalk {p : Program} {e : Env} {s : State} {m : MethodId} {below : List Frame} {meth : Method} {c : Code} {l : Launch} {b : Nat} {xs : Nat → Int32} (hx : p.tables.exec = Jvm.exec) (hb : c.code = cL_law) (hr : meth.sig.returnType = ret) (hml : c.maxLocals = 9) (hfl : l.stackTraces = false) (hown : s.vm.findClass RL = some m.cls) (hts : ∀ w ∈ wsL_law, w.before #[Value.ref b] s = true) (hX : va_X b 7 xs s s.heap) (hbl : b < s.heap.size) (hlocks : meth.locks = false) {A : Nat → Prop} (hbA : ¬ A b) (hAo : ∀ q, A q → s.heap.size ≤ q) (hA : ∀ q : Nat, s.heap.size ≤ q → A q) (dC : Nat → ClassId) (dI : Nat → Nat → Nat) (hN : nwA s) (e0 : Nat) (aK aV : Nat → Nat) (hZ : zX A s s.heap ∧ zM e0 aK aV A s s.heap) (ya ms ju rj tj ro rn tn rh th ca sa da xa wb z1 z2 jt z3 br z4 z5 z6 lk z7 z8 li bm l2 z9 bo h2 mm l1 z10 oo h1 ct cr cu cg cp co tg ts tr tk te fw fo fu xm ml cl fl rg tR ou od kn : Nat) (cI cM cS cL cD cB : ClassId) {H : Heap} {locs : List Loc} (hP : va_P (dC, dI) vwCl [(ya, .inr (16, [.ref ms, .int 0, .ref ju, .ref li, .ref ct, .ref tg, .ref fw])), (fw, .inr (6, [.int 0, .int 0, .int 0, .long 0, .ref fo, .ref fu])), (xm, .inr (20, [.int 0, .int 0, .ref kn, .int 0, .int 0, .int 0, .ref ml, .ref cl, .ref rg, .ref tR, .ref (aK 0), .ref (aK 0), .ref fl, .int 0, .int 0, .int 0, .int 0, .int 0, .int 0, .int 0, .null])), (fl, .inr (4, [.int 0, .ref e0, .int 0]))] H) (hD : va_D A [(ya, .inr (16, [.ref ms, .int 0, .ref ju, .ref li, .ref ct, .ref tg, .ref fw])), (fw, .inr (6, [.int 0, .int 0, .int 0, .long 0, .ref fo, .ref fu])), (xm, .inr (20, [.int 0, .int 0, .ref kn, .int 0, .int 0, .int 0, .ref ml, .ref cl, .ref rg, .ref tR, .ref (aK 0), .ref (aK 0), .ref fl, .int 0, .int 0, .int 0, .int 0, .int 0, .int 0, .int 0, .null])), (fl, .inr (4, [.int 0, .ref e0, .int 0]))]) (hK : va_K (dC, dI) vwCl [] s) (hS : va_S A s.heap H locs) {ls : Array Slot} (hl : lv_has ls 9 [(0, .ref b), (1, .ref ya), (2, .ref xm), (3, .ref ou), (4, .ref od), (5, .int 0)]) : W p l e room_1 s m #[Value.ref b] below meth c H locs 200 60000 (lw_Z below #[Value.ref b] s) (F0 m 2548 ls []) := by
  obtain ⟨s1, hs1⟩ : ∃ z, z = xs ((0 : Int32) + 1).toNatClampNeg := ⟨_, rfl⟩
  obtain ⟨s2, hs2⟩ : ∃ z, z = xs ((0 : Int32) + 2).toNatClampNeg := ⟨_, rfl⟩
  obtain ⟨s3, hs3⟩ : ∃ z, z = xs ((0 : Int32) + 3).toNatClampNeg := ⟨_, rfl⟩
  obtain ⟨s4, hs4⟩ : ∃ z, z = xs ((0 : Int32) + 4).toNatClampNeg := ⟨_, rfl⟩
  obtain ⟨s5, hs5⟩ : ∃ z, z = xs ((0 : Int32) + 5).toNatClampNeg := ⟨_, rfl⟩
  obtain ⟨s6, hs6⟩ : ∃ z, z = xs ((0 : Int32) + 6).toNatClampNeg := ⟨_, rfl⟩
  obtain ⟨k1, hk1⟩ : ∃ z, z = (s1.toUInt32 % 65536).toInt32 := ⟨_, rfl⟩
  obtain ⟨k2, hk2⟩ : ∃ z, z = (s2.toUInt32 % 65536).toInt32 := ⟨_, rfl⟩
  obtain ⟨k3, hk3⟩ : ∃ z, z = (s3.toUInt32 % 65536).toInt32 := ⟨_, rfl⟩
  obtain ⟨k4, hk4⟩ : ∃ z, z = (s4.toUInt32 % 65536).toInt32 := ⟨_, rfl⟩
  obtain ⟨k5, hk5⟩ : ∃ z, z = (s5.toUInt32 % 65536).toInt32 := ⟨_, rfl⟩
  obtain ⟨k6, hk6⟩ : ∃ z, z = (s6.toUInt32 % 65536).toInt32 := ⟨_, rfl⟩
  refine lv_aload_n hx hb dL_law_2548 rfl (lv_at hl 1 rfl) ?_
  have hPc := hP.sub (ws' := [(ya, .inr (16, [.ref ms, .int 0, .ref ju, .ref li, .ref ct, .ref tg, .ref fw])), (fw, .inr (6, [.int 0, .int 0, .int 0, .long 0, .ref fo, .ref fu]))]) [0, 1] rfl
  have hDc := hD.sub (ws' := [(ya, .inr (16, [.ref ms, .int 0, .ref ju, .ref li, .ref ct, .ref tg, .ref fw])), (fw, .inr (6, [.int 0, .int 0, .int 0, .long 0, .ref fo, .ref fu]))]) [0, 1] (by decide) rfl
  have hKc := hK.sub (tys' := []) [] rfl
  have hFc := va_free (wc := [(ya, .inr (16, [.ref ms, .int 0, .ref ju, .ref li, .ref ct, .ref tg, .ref fw])), (fw, .inr (6, [.int 0, .int 0, .int 0, .long 0, .ref fo, .ref fu]))]) hD hS hA [0, 1] rfl
  refine vx_calli (vx_runV (As := []) (rest := []) ⟨hx, hb, hml, hown, hts⟩ (c_X11_unwalk l hfl dC dI ya ms ju li ct tg fw fo fu 0 0 0 H.size) (cwV 0 hts gL_law_X11_unwalk rfl rfl rfl (by decide +kernel) ⟨Nat.le_of_ble_eq_true rfl, Nat.le_of_ble_eq_true rfl⟩) (pcVz (zX_ok) hPc hDc hKc hN hZ.1 hS hFc (ci := 16) (q0 := 0) rfl rfl) rfl rfl hl.1 rfl (lv_room (Nat.le_of_ble_eq_true rfl)) dL_law_2549 ⟨Nat.le_of_ble_eq_true rfl, Nat.le_of_ble_eq_true rfl⟩) hS (fun q _ h => hFc q h) hFc (fun q _ h => hFc q h) (fun E9 ce9 q9 u9 t9 H9 locs9 ht9 hvm9 hp9 hE9 hz9 hk9 hS9 hc9 hv9 hcl9 => hE9.elim) (fun r_1 u t H1 locs ht hvm hw_2 hB hz1 hk1 hS => ?_)
  obtain ⟨hP1, hK1, hD1⟩ := hB
  rw [ht] at hP1
  try dsimp only at hw_2
  obtain ⟨hP, hD⟩ := va_join (wr := [(xm, .inr (20, [.int 0, .int 0, .ref kn, .int 0, .int 0, .int 0, .ref ml, .ref cl, .ref rg, .ref tR, .ref (aK 0), .ref (aK 0), .ref fl, .int 0, .int 0, .int 0, .int 0, .int 0, .int 0, .int 0, .null])), (fl, .inr (4, [.int 0, .ref e0, .int 0]))]) (w1 := []) hP hD [0, 1] [2, 3] rfl rfl (by decide) (by decide) hk1 hFc hP1 hD1
  generalize H1 = H at hP hS ⊢
  have hP : va_P (dC, dI) vwCl [(xm, .inr (20, [.int 0, .int 0, .ref kn, .int 0, .int 0, .int 0, .ref ml, .ref cl, .ref rg, .ref tR, .ref (aK 0), .ref (aK 0), .ref fl, .int 0, .int 0, .int 0, .int 0, .int 0, .int 0, .int 0, .null])), (fl, .inr (4, [.int 0, .ref e0, .int 0]))] H := hP
  have hD : va_D A [(xm, .inr (20, [.int 0, .int 0, .ref kn, .int 0, .int 0, .int 0, .ref ml, .ref cl, .ref rg, .ref tR, .ref (aK 0), .ref (aK 0), .ref fl, .int 0, .int 0, .int 0, .int 0, .int 0, .int 0, .int 0, .null])), (fl, .inr (4, [.int 0, .ref e0, .int 0]))] := hD
  obtain rfl : r_1 = 0 := hw_2
  refine lv_aload_n hx hb dL_law_2552 rfl (lv_at hl 2 rfl) ?_
  have hPc := hP.sub (ws' := [(xm, .inr (20, [.int 0, .int 0, .ref kn, .int 0, .int 0, .int 0, .ref ml, .ref cl, .ref rg, .ref tR, .ref (aK 0), .ref (aK 0), .ref fl, .int 0, .int 0, .int 0, .int 0, .int 0, .int 0, .int 0, .null])), (fl, .inr (4, [.int 0, .ref e0, .int 0]))]) [0, 1] rfl
  have hDc := hD.sub (ws' := [(xm, .inr (20, [.int 0, .int 0, .ref kn, .int 0, .int 0, .int 0, .ref ml, .ref cl, .ref rg, .ref tR, .ref (aK 0), .ref (aK 0), .ref fl, .int 0, .int 0, .int 0, .int 0, .int 0, .int 0, .int 0, .null])), (fl, .inr (4, [.int 0, .ref e0, .int 0]))]) [0, 1] (by decide) rfl
  have hKc := hK.sub (tys' := []) [] rfl
  have hFc := va_free (wc := [(xm, .inr (20, [.int 0, .int 0, .ref kn, .int 0, .int 0, .int 0, .ref ml, .ref cl, .ref rg, .ref tR, .ref (aK 0), .ref (aK 0), .ref fl, .int 0, .int 0, .int 0, .int 0, .int 0, .int 0, .int 0, .null])), (fl, .inr (4, [.int 0, .ref e0, .int 0]))]) hD hS hA [0, 1] rfl
  refine va_calli (va_runV (As := []) (rest := [.int 0]) ⟨hx, hb, hml, hown, hts⟩ (c_X15_unwalk l dC dI xm ml cl fl kn rg tR e0 aK aV H.size) (cwV 0 hts gL_law_X15_unwalk rfl rfl rfl (by decide +kernel) ⟨Nat.le_of_ble_eq_true rfl, Nat.le_of_ble_eq_true rfl⟩) (pcVz (zM_ok e0 aK aV) hPc hDc hKc hN hZ.2 hS hFc (ci := 20) (q0 := 0) rfl rfl) rfl rfl hl.1 rfl (lv_room (Nat.le_of_ble_eq_true rfl)) dL_law_2553 ⟨Nat.le_of_ble_eq_true rfl, Nat.le_of_ble_eq_true rfl⟩) hS (fun q _ h => hFc q h) hFc (fun r_4 u t H1 locs ht hvm hw_5 hB hz1 hk1 hS => ?_)
  obtain fs_3 := u
  obtain ⟨hP1, hK1, hD1⟩ := hB
  rw [ht] at hP1
  try dsimp only at hw_5
  obtain ⟨hP, hD⟩ := va_join (wr := []) (w1 := [(xm, .inr (20, fs_3))]) hP hD [0, 1] [] rfl rfl (by decide) (by decide) hk1 hFc hP1 hD1
  generalize H1 = H at hP hS ⊢
  have hP : va_P (dC, dI) vwCl [(xm, .inr (20, fs_3))] H := hP
  have hD : va_D A [(xm, .inr (20, fs_3))] := hD
  obtain rfl : r_4 = 0 := hw_5.2
  refine lv_icmp_eq (tgt := 2778) hx hb dL_law_2556 (by decide) (fun c2556_6 => ?_) (fun c2556_6 => ?_)
  · refine W.widen (k := 600006) (n := 7302039) (Nat.le_of_ble_eq_true rfl) (Nat.le_of_ble_eq_true rfl) ?_
    exact law_end hx hb hr hml hX hbl hlocks hbA hAo hS (lv_sub hl [0, 5] rfl)
  · exact (c2556_6 (by decide)).elim

set_option maxHeartbeats 8000000 in
set_option maxRecDepth 100000 in
/-- the law: law_37_walk -/
theorem law_37_walk {p : Program} {e : Env} {s : State} {m : MethodId} {below : List Frame} {meth : Method} {c : Code} {l : Launch} {b : Nat} {xs : Nat → Int32} (hx : p.tables.exec = Jvm.exec) (hb : c.code = cL_law) (hr : meth.sig.returnType = ret) (hml : c.maxLocals = 9) (hfl : l.stackTraces = false) (hown : s.vm.findClass RL = some m.cls) (hts : ∀ w ∈ wsL_law, w.before #[Value.ref b] s = true) (hX : va_X b 7 xs s s.heap) (hbl : b < s.heap.size) (hlocks : meth.locks = false) {A : Nat → Prop} (hbA : ¬ A b) (hAo : ∀ q, A q → s.heap.size ≤ q) (hA : ∀ q : Nat, s.heap.size ≤ q → A q) (dC : Nat → ClassId) (dI : Nat → Nat → Nat) (hN : nwA s) (e0 : Nat) (aK aV : Nat → Nat) (hZ : zX A s s.heap ∧ zM e0 aK aV A s s.heap) (ya ms ju rj tj ro rn tn rh th ca sa da xa wb z1 z2 jt z3 br z4 z5 z6 lk z7 z8 li bm l2 z9 bo h2 mm l1 z10 oo h1 ct cr cu cg cp co tg ts tr tk te fw fo fu xm ml cl fl rg tR ou od kn : Nat) (cI cM cS cL cD cB : ClassId) {H : Heap} {locs : List Loc} (hP : va_P (dC, dI) vwCl [(ya, .inr (16, [.ref ms, .int 0, .ref ju, .ref li, .ref ct, .ref tg, .ref fw])), (fw, .inr (6, [.int 0, .int 0, .int 0, .long 0, .ref fo, .ref fu])), (fo, .inl (cI, 10, .inl (fun _ => 0))), (fu, .inl (cI, 10, .inl (fun _ => 0))), (ou, .inl (cL, 1, .inr (.inl (fun _ => 0)))), (xm, .inr (20, [.int 0, .int 0, .ref kn, .int 0, .int 0, .int 0, .ref ml, .ref cl, .ref rg, .ref tR, .ref (aK 0), .ref (aK 0), .ref fl, .int 0, .int 0, .int 0, .int 0, .int 0, .int 0, .int 0, .null])), (fl, .inr (4, [.int 0, .ref e0, .int 0]))] H) (hD : va_D A [(ya, .inr (16, [.ref ms, .int 0, .ref ju, .ref li, .ref ct, .ref tg, .ref fw])), (fw, .inr (6, [.int 0, .int 0, .int 0, .long 0, .ref fo, .ref fu])), (fo, .inl (cI, 10, .inl (fun _ => 0))), (fu, .inl (cI, 10, .inl (fun _ => 0))), (ou, .inl (cL, 1, .inr (.inl (fun _ => 0)))), (xm, .inr (20, [.int 0, .int 0, .ref kn, .int 0, .int 0, .int 0, .ref ml, .ref cl, .ref rg, .ref tR, .ref (aK 0), .ref (aK 0), .ref fl, .int 0, .int 0, .int 0, .int 0, .int 0, .int 0, .int 0, .null])), (fl, .inr (4, [.int 0, .ref e0, .int 0]))]) (hK : va_K (dC, dI) vwCl [(cI, .int), (cL, .long)] s) (hS : va_S A s.heap H locs) {ls : Array Slot} (hl : lv_has ls 9 [(0, .ref b), (1, .ref ya), (2, .ref xm), (3, .ref ou), (4, .ref od), (5, .int 0)]) : W p l e room_1 s m #[Value.ref b] below meth c H locs 200 60000 (lw_Z below #[Value.ref b] s) (F0 m 2561 ls []) := by
  obtain ⟨s1, hs1⟩ : ∃ z, z = xs ((0 : Int32) + 1).toNatClampNeg := ⟨_, rfl⟩
  obtain ⟨s2, hs2⟩ : ∃ z, z = xs ((0 : Int32) + 2).toNatClampNeg := ⟨_, rfl⟩
  obtain ⟨s3, hs3⟩ : ∃ z, z = xs ((0 : Int32) + 3).toNatClampNeg := ⟨_, rfl⟩
  obtain ⟨s4, hs4⟩ : ∃ z, z = xs ((0 : Int32) + 4).toNatClampNeg := ⟨_, rfl⟩
  obtain ⟨s5, hs5⟩ : ∃ z, z = xs ((0 : Int32) + 5).toNatClampNeg := ⟨_, rfl⟩
  obtain ⟨s6, hs6⟩ : ∃ z, z = xs ((0 : Int32) + 6).toNatClampNeg := ⟨_, rfl⟩
  obtain ⟨k1, hk1⟩ : ∃ z, z = (s1.toUInt32 % 65536).toInt32 := ⟨_, rfl⟩
  obtain ⟨k2, hk2⟩ : ∃ z, z = (s2.toUInt32 % 65536).toInt32 := ⟨_, rfl⟩
  obtain ⟨k3, hk3⟩ : ∃ z, z = (s3.toUInt32 % 65536).toInt32 := ⟨_, rfl⟩
  obtain ⟨k4, hk4⟩ : ∃ z, z = (s4.toUInt32 % 65536).toInt32 := ⟨_, rfl⟩
  obtain ⟨k5, hk5⟩ : ∃ z, z = (s5.toUInt32 % 65536).toInt32 := ⟨_, rfl⟩
  obtain ⟨k6, hk6⟩ : ∃ z, z = (s6.toUInt32 % 65536).toInt32 := ⟨_, rfl⟩
  refine lv_aload_n hx hb dL_law_2561 rfl (lv_at hl 1 rfl) ?_
  refine lv_aload_n hx hb dL_law_2562 rfl (lv_at hl 0 rfl) ?_
  refine lv_iload hx hb dL_law_2563 (lv_at hl 5 rfl) ?_
  refine lv_iconst (v := 1) hx hb dL_law_2565 (by decide) ?_
  refine lv_iadd hx hb dL_law_2566 ?_
  refine va_sld hx hb hX hbl hbA hS sx1 dL_law_2567 ?_
  refine lv_topi (fun x_1 ex_1 => ?_)
  obtain rfl : s1 = x_1 := (ex_1.trans hs1.symm).symm
  refine lv_i2l hx hb dL_law_2568 rfl ?_
  refine lv_bipush (v := 32) hx hb dL_law_2569 (by decide) ?_
  refine lv_lshl hx hb dL_law_2571 rfl ?_
  refine lv_aload_n hx hb dL_law_2572 rfl (lv_at hl 0 rfl) ?_
  refine lv_iload hx hb dL_law_2573 (lv_at hl 5 rfl) ?_
  refine lv_iconst (v := 2) hx hb dL_law_2575 (by decide) ?_
  refine lv_iadd hx hb dL_law_2576 ?_
  refine va_sld hx hb hX hbl hbA hS sx2 dL_law_2577 ?_
  refine lv_topi (fun x_2 ex_2 => ?_)
  obtain rfl : s2 = x_2 := (ex_2.trans hs2.symm).symm
  refine lv_i2l hx hb dL_law_2578 rfl ?_
  refine lv_ldc2 (v := (4294967295)) hx hb hown (hts (.constantLong RL 280 (4294967295)) (by decide +kernel)) dL_law_2579 ?_
  refine lv_land hx hb dL_law_2582 ?_
  refine lv_lor hx hb dL_law_2583 ?_
  refine lv_topl (fun w1 ew1 => ?_)
  refine lv_aload_n hx hb dL_law_2584 rfl (lv_at hl 0 rfl) ?_
  refine lv_iload hx hb dL_law_2585 (lv_at hl 5 rfl) ?_
  refine lv_iconst (v := 3) hx hb dL_law_2587 (by decide) ?_
  refine lv_iadd hx hb dL_law_2588 ?_
  refine va_sld hx hb hX hbl hbA hS sx3 dL_law_2589 ?_
  refine lv_topi (fun x_3 ex_3 => ?_)
  obtain rfl : s3 = x_3 := (ex_3.trans hs3.symm).symm
  refine lv_aload_n hx hb dL_law_2590 rfl (lv_at hl 3 rfl) ?_
  have hPc := hP.sub (ws' := [(ya, .inr (16, [.ref ms, .int 0, .ref ju, .ref li, .ref ct, .ref tg, .ref fw])), (fw, .inr (6, [.int 0, .int 0, .int 0, .long 0, .ref fo, .ref fu])), (fo, .inl (cI, 10, .inl (fun _ => 0))), (fu, .inl (cI, 10, .inl (fun _ => 0))), (ou, .inl (cL, 1, .inr (.inl (fun _ => 0))))]) [0, 1, 2, 3, 4] rfl
  have hDc := hD.sub (ws' := [(ya, .inr (16, [.ref ms, .int 0, .ref ju, .ref li, .ref ct, .ref tg, .ref fw])), (fw, .inr (6, [.int 0, .int 0, .int 0, .long 0, .ref fo, .ref fu])), (fo, .inl (cI, 10, .inl (fun _ => 0))), (fu, .inl (cI, 10, .inl (fun _ => 0))), (ou, .inl (cL, 1, .inr (.inl (fun _ => 0))))]) [0, 1, 2, 3, 4] (by decide) rfl
  have hKc := hK.sub (tys' := [(cI, .int), (cL, .long)]) [0, 1] rfl
  have hFc := va_free (wc := [(ya, .inr (16, [.ref ms, .int 0, .ref ju, .ref li, .ref ct, .ref tg, .ref fw])), (fw, .inr (6, [.int 0, .int 0, .int 0, .long 0, .ref fo, .ref fu])), (fo, .inl (cI, 10, .inl (fun _ => 0))), (fu, .inl (cI, 10, .inl (fun _ => 0))), (ou, .inl (cL, 1, .inr (.inl (fun _ => 0))))]) hD hS hA [0, 1, 2, 3, 4] rfl
  refine vx_calli (vx_runSX (As := [.ref ya, .long w1, .int s3, .ref ou]) (rest := []) ⟨hx, hb, hml, hown, hts⟩ (c_L_walk l hfl dC dI cI ya ms ju li ct tg fw fo fu 0 0 0 (fun _ => 0) (fun _ => 0) w1 s3 cL ou (fun _ => 0) H.size) (vx_cwSW 4 hts gL_law_L_walk rfl rfl rfl (by decide +kernel) ⟨Nat.le_of_ble_eq_true rfl, Nat.le_of_ble_eq_true rfl⟩) (pcSz (zX_ok) hPc hDc hKc hN hZ.1 hS hFc) rfl rfl hl.1 rfl (lv_room (Nat.le_of_ble_eq_true rfl)) dL_law_2591 ⟨Nat.le_of_ble_eq_true rfl, Nat.le_of_ble_eq_true rfl⟩) hS (fun q _ h => hFc q h) hFc (fun q _ h => hFc q h) (fun E9 ce9 q9 u9 t9 H9 locs9 ht9 hvm9 hp9 hE9 hz9 hk9 hS9 hc9 hv9 hcl9 => hE9.elim) (fun r_5 u t H1 locs ht hvm hw_6 hB hz1 hk1 hS => ?_)
  obtain of_4 := u
  obtain ⟨hP1, hK1, hD1⟩ := hB
  rw [ht] at hP1
  try dsimp only at hw_6
  obtain ⟨hP, hD⟩ := va_join (wr := [(xm, .inr (20, [.int 0, .int 0, .ref kn, .int 0, .int 0, .int 0, .ref ml, .ref cl, .ref rg, .ref tR, .ref (aK 0), .ref (aK 0), .ref fl, .int 0, .int 0, .int 0, .int 0, .int 0, .int 0, .int 0, .null])), (fl, .inr (4, [.int 0, .ref e0, .int 0]))]) (w1 := [(ou, .inl (cL, 1, .inr (.inl of_4)))]) hP hD [0, 1, 2, 3, 4] [5, 6] rfl rfl (by decide) (by decide) hk1 hFc hP1 hD1
  generalize H1 = H at hP hS ⊢
  have hP : va_P (dC, dI) vwCl [(xm, .inr (20, [.int 0, .int 0, .ref kn, .int 0, .int 0, .int 0, .ref ml, .ref cl, .ref rg, .ref tR, .ref (aK 0), .ref (aK 0), .ref fl, .int 0, .int 0, .int 0, .int 0, .int 0, .int 0, .int 0, .null])), (fl, .inr (4, [.int 0, .ref e0, .int 0])), (ou, .inl (cL, 1, .inr (.inl of_4)))] H := hP
  have hD : va_D A [(xm, .inr (20, [.int 0, .int 0, .ref kn, .int 0, .int 0, .int 0, .ref ml, .ref cl, .ref rg, .ref tR, .ref (aK 0), .ref (aK 0), .ref fl, .int 0, .int 0, .int 0, .int 0, .int 0, .int 0, .int 0, .null])), (fl, .inr (4, [.int 0, .ref e0, .int 0])), (ou, .inl (cL, 1, .inr (.inl of_4)))] := hD
  refine W.widen (k := 202) (n := 60012) (Nat.le_of_ble_eq_true rfl) (Nat.le_of_ble_eq_true rfl) ?_
  rcases hw_6 with ⟨hr0, hPP, hv0⟩ | ⟨hr0, hPP⟩
  · obtain rfl : r_5 = 0 := hr0
    refine lv_istore (lv' := [(6, .int 0), (0, .ref b), (1, .ref ya), (2, .ref xm), (3, .ref ou), (4, .ref od), (5, .int 0)]) hx hb dL_law_2594 hl (by decide) rfl (fun ls hl => ?_)
    refine lv_aload_n hx hb dL_law_2596 rfl (lv_at hl 3 rfl) ?_
    refine lv_aload_n hx hb dL_law_2597 rfl (lv_at hl 1 rfl) ?_
    refine lv_iload hx hb dL_law_2598 (lv_at hl 6 rfl) ?_
    refine lv_iconst (v := 1) hx hb dL_law_2600 (by decide) ?_
    refine lv_iadd hx hb dL_law_2601 ?_
    refine va_sld hx hb hX hbl hbA hS sx1 dL_law_2602 ?_
    refine lv_topi (fun x_7 ex_7 => ?_)
    obtain rfl : s1 = x_7 := (ex_7.trans hs1.symm).symm
    refine lv_i2l hx hb dL_law_2603 rfl ?_
    refine lv_bipush (v := 32) hx hb dL_law_2604 (by decide) ?_
    refine lv_lshl hx hb dL_law_2606 rfl ?_
    refine lv_aload_n hx hb dL_law_2607 rfl (lv_at hl 1 rfl) ?_
    refine lv_iload hx hb dL_law_2608 (lv_at hl 6 rfl) ?_
    refine lv_iconst (v := 2) hx hb dL_law_2610 (by decide) ?_
    refine lv_iadd hx hb dL_law_2611 ?_
    refine va_sld hx hb hX hbl hbA hS sx2 dL_law_2612 ?_
    refine lv_topi (fun x_8 ex_8 => ?_)
    obtain rfl : s2 = x_8 := (ex_8.trans hs2.symm).symm
    refine lv_i2l hx hb dL_law_2613 rfl ?_
    refine lv_ldc2 (v := (4294967295)) hx hb hown (hts (.constantLong RL 280 (4294967295)) (by decide +kernel)) dL_law_2614 ?_
    refine lv_land hx hb dL_law_2617 ?_
    refine lv_lor hx hb dL_law_2618 ?_
    refine lv_topl (fun w_9 ew_9 => ?_)
    obtain rfl : w1 = w_9 := (ew_9.trans ew1.symm).symm
    refine lv_aload_n hx hb dL_law_2619 rfl (lv_at hl 1 rfl) ?_
    refine lv_iload hx hb dL_law_2620 (lv_at hl 6 rfl) ?_
    refine lv_iconst (v := 3) hx hb dL_law_2622 (by decide) ?_
    refine lv_iadd hx hb dL_law_2623 ?_
    refine va_sld hx hb hX hbl hbA hS sx3 dL_law_2624 ?_
    refine lv_topi (fun x_10 ex_10 => ?_)
    obtain rfl : s3 = x_10 := (ex_10.trans hs3.symm).symm
    have hPc := hP.sub (ws' := [(xm, .inr (20, [.int 0, .int 0, .ref kn, .int 0, .int 0, .int 0, .ref ml, .ref cl, .ref rg, .ref tR, .ref (aK 0), .ref (aK 0), .ref fl, .int 0, .int 0, .int 0, .int 0, .int 0, .int 0, .int 0, .null])), (fl, .inr (4, [.int 0, .ref e0, .int 0]))]) [0, 1] rfl
    have hDc := hD.sub (ws' := [(xm, .inr (20, [.int 0, .int 0, .ref kn, .int 0, .int 0, .int 0, .ref ml, .ref cl, .ref rg, .ref tR, .ref (aK 0), .ref (aK 0), .ref fl, .int 0, .int 0, .int 0, .int 0, .int 0, .int 0, .int 0, .null])), (fl, .inr (4, [.int 0, .ref e0, .int 0]))]) [0, 1] (by decide) rfl
    have hKc := hK.sub (tys' := []) [] rfl
    have hFc := va_free (wc := [(xm, .inr (20, [.int 0, .int 0, .ref kn, .int 0, .int 0, .int 0, .ref ml, .ref cl, .ref rg, .ref tR, .ref (aK 0), .ref (aK 0), .ref fl, .int 0, .int 0, .int 0, .int 0, .int 0, .int 0, .int 0, .null])), (fl, .inr (4, [.int 0, .ref e0, .int 0]))]) hD hS hA [0, 1] rfl
    refine va_calll (va_runV (As := [.long w1, .int s3]) (rest := []) ⟨hx, hb, hml, hown, hts⟩ (c_X15_walk l dC dI xm ml cl fl kn rg tR e0 aK aV w1 s3 H.size) (cwV 2 hts gL_law_X15_walk rfl rfl rfl (by decide +kernel) ⟨Nat.le_of_ble_eq_true rfl, Nat.le_of_ble_eq_true rfl⟩) (pcVz (zM_ok e0 aK aV) hPc hDc hKc hN hZ.2 hS hFc (ci := 20) (q0 := 0) rfl rfl) rfl rfl hl.1 rfl (lv_room (Nat.le_of_ble_eq_true rfl)) dL_law_2625 ⟨Nat.le_of_ble_eq_true rfl, Nat.le_of_ble_eq_true rfl⟩) hS (fun q _ h => hFc q h) hFc (fun r_12 u t H1 locs ht hvm hw_13 hB hz1 hk1 hS => ?_)
    obtain fs_11 := u
    obtain ⟨hP1, hK1, hD1⟩ := hB
    rw [ht] at hP1
    try dsimp only at hw_13
    obtain ⟨hP, hD⟩ := va_join (wr := [(ou, .inl (cL, 1, .inr (.inl of_4)))]) (w1 := [(xm, .inr (20, fs_11))]) hP hD [0, 1] [2] rfl rfl (by decide) (by decide) hk1 hFc hP1 hD1
    generalize H1 = H at hP hS ⊢
    have hP : va_P (dC, dI) vwCl [(ou, .inl (cL, 1, .inr (.inl of_4))), (xm, .inr (20, fs_11))] H := hP
    have hD : va_D A [(ou, .inl (cL, 1, .inr (.inl of_4))), (xm, .inr (20, fs_11))] := hD
    refine W.widen (k := 203) (n := 60016) (Nat.le_of_ble_eq_true rfl) (Nat.le_of_ble_eq_true rfl) ?_
    obtain ⟨ht9, hrv⟩ := hw_13.elim (fun h => h.2) (fun h => absurd hPP h.1)
    obtain rfl : w1 = r_12 := (hrv).symm
    refine lv_lstore (lv' := [(7, .long w1), (6, .int 0), (0, .ref b), (1, .ref ya), (2, .ref xm), (3, .ref ou), (4, .ref od), (5, .int 0)]) hx hb dL_law_2628 hl (by decide) rfl (fun ls hl => ?_)
    refine lv_aload_n hx hb dL_law_2630 rfl (lv_at hl 4 rfl) ?_
    have hPc := hP.sub (ws' := [(xm, .inr (20, fs_11))]) [1] rfl
    have hDc := hD.sub (ws' := [(xm, .inr (20, fs_11))]) [1] (by decide) rfl
    have hKc := hK.sub (tys' := []) [] rfl
    have hFc := va_free (wc := [(xm, .inr (20, fs_11))]) hD hS hA [1] rfl
    refine va_calli (va_runV (As := []) (rest := []) ⟨hx, hb, hml, hown, hts⟩ (c_X15_thrown l dC dI xm fs_11 0 ht9 H.size) (cwV 0 hts gL_law_X15_thrown rfl rfl rfl (by decide +kernel) ⟨Nat.le_of_ble_eq_true rfl, Nat.le_of_ble_eq_true rfl⟩) (pcV hPc hDc hKc hN (ci := 20) (q0 := 0) rfl rfl) rfl rfl hl.1 rfl (lv_room (Nat.le_of_ble_eq_true rfl)) dL_law_2631 ⟨Nat.le_of_ble_eq_true rfl, Nat.le_of_ble_eq_true rfl⟩) hS (fun q _ h => hFc q h) hFc (fun r_14 u t H1 locs ht hvm hw_15 hB hz1 hk1 hS => ?_)
    obtain ⟨hP1, hK1, hD1⟩ := hB
    rw [ht] at hP1
    try dsimp only at hw_15
    obtain ⟨hP, hD⟩ := va_join (wr := [(ou, .inl (cL, 1, .inr (.inl of_4)))]) (w1 := []) hP hD [1] [0] rfl rfl (by decide) (by decide) hk1 hFc hP1 hD1
    generalize H1 = H at hP hS ⊢
    have hP : va_P (dC, dI) vwCl [(ou, .inl (cL, 1, .inr (.inl of_4)))] H := hP
    have hD : va_D A [(ou, .inl (cL, 1, .inr (.inl of_4)))] := hD
    obtain rfl : r_14 = 0 := hw_15
    refine lv_iload hx hb dL_law_2634 (lv_at hl 1 rfl) ?_
    refine lv_icmp_eq (tgt := 2641) hx hb dL_law_2636 (by decide) (fun c2636_16 => ?_) (fun c2636_16 => ?_)
    · refine lv_iload hx hb dL_law_2641 (lv_at hl 1 rfl) ?_
      refine lv_if_ne (tgt := 2657) hx hb dL_law_2643 (by decide) (fun c2643_17 => ?_) (fun c2643_17 => ?_)
      · exact (c2643_17 (by decide)).elim
      · refine lv_aload_n hx hb dL_law_2646 rfl (lv_at hl 5 rfl) ?_
        refine lv_iconst (v := 0) hx hb dL_law_2647 (by decide) ?_
        refine va_lald hx hb hK hP 0 1 rfl rfl (show vp_in (nI 0) 1 from vp_in_nI (by decide) (by decide)) dL_law_2648 ?_
        refine lv_topl (fun z_18 ez_18 => ?_)
        obtain rfl : w1 = z_18 := (by rw [ez_18, show (0 : Int32).toNatClampNeg = 0 from by decide]; exact hv0).symm
        refine lv_lload hx hb dL_law_2649 (lv_at hl 0 rfl) ?_
        refine W.lcmp hx hb dL_law_2651 ?_
        refine lv_if_eq (tgt := 2657) hx hb dL_law_2652 (by decide) (fun c2652_19 => ?_) (fun c2652_19 => ?_)
        · refine lv_goto (tgt := 2778) hx hb dL_law_2657 (by decide) ?_
          refine W.widen (k := 600006) (n := 7302039) (Nat.le_of_ble_eq_true rfl) (Nat.le_of_ble_eq_true rfl) ?_
          exact law_end hx hb hr hml hX hbl hlocks hbA hAo hS (lv_sub hl [2, 7] rfl)
        · exact absurd ((lg_cmp_eq _ _).mpr rfl) c2652_19
    · exact (c2636_16 (by decide)).elim
  · obtain rfl : r_5 = 1 := hr0
    refine lv_istore (lv' := [(6, .int 1), (0, .ref b), (1, .ref ya), (2, .ref xm), (3, .ref ou), (4, .ref od), (5, .int 0)]) hx hb dL_law_2594 hl (by decide) rfl (fun ls hl => ?_)
    refine lv_aload_n hx hb dL_law_2596 rfl (lv_at hl 3 rfl) ?_
    refine lv_aload_n hx hb dL_law_2597 rfl (lv_at hl 1 rfl) ?_
    refine lv_iload hx hb dL_law_2598 (lv_at hl 6 rfl) ?_
    refine lv_iconst (v := 1) hx hb dL_law_2600 (by decide) ?_
    refine lv_iadd hx hb dL_law_2601 ?_
    refine va_sld hx hb hX hbl hbA hS sx1 dL_law_2602 ?_
    refine lv_topi (fun x_20 ex_20 => ?_)
    obtain rfl : s1 = x_20 := (ex_20.trans hs1.symm).symm
    refine lv_i2l hx hb dL_law_2603 rfl ?_
    refine lv_bipush (v := 32) hx hb dL_law_2604 (by decide) ?_
    refine lv_lshl hx hb dL_law_2606 rfl ?_
    refine lv_aload_n hx hb dL_law_2607 rfl (lv_at hl 1 rfl) ?_
    refine lv_iload hx hb dL_law_2608 (lv_at hl 6 rfl) ?_
    refine lv_iconst (v := 2) hx hb dL_law_2610 (by decide) ?_
    refine lv_iadd hx hb dL_law_2611 ?_
    refine va_sld hx hb hX hbl hbA hS sx2 dL_law_2612 ?_
    refine lv_topi (fun x_21 ex_21 => ?_)
    obtain rfl : s2 = x_21 := (ex_21.trans hs2.symm).symm
    refine lv_i2l hx hb dL_law_2613 rfl ?_
    refine lv_ldc2 (v := (4294967295)) hx hb hown (hts (.constantLong RL 280 (4294967295)) (by decide +kernel)) dL_law_2614 ?_
    refine lv_land hx hb dL_law_2617 ?_
    refine lv_lor hx hb dL_law_2618 ?_
    refine lv_topl (fun w_22 ew_22 => ?_)
    obtain rfl : w1 = w_22 := (ew_22.trans ew1.symm).symm
    refine lv_aload_n hx hb dL_law_2619 rfl (lv_at hl 1 rfl) ?_
    refine lv_iload hx hb dL_law_2620 (lv_at hl 6 rfl) ?_
    refine lv_iconst (v := 3) hx hb dL_law_2622 (by decide) ?_
    refine lv_iadd hx hb dL_law_2623 ?_
    refine va_sld hx hb hX hbl hbA hS sx3 dL_law_2624 ?_
    refine lv_topi (fun x_23 ex_23 => ?_)
    obtain rfl : s3 = x_23 := (ex_23.trans hs3.symm).symm
    have hPc := hP.sub (ws' := [(xm, .inr (20, [.int 0, .int 0, .ref kn, .int 0, .int 0, .int 0, .ref ml, .ref cl, .ref rg, .ref tR, .ref (aK 0), .ref (aK 0), .ref fl, .int 0, .int 0, .int 0, .int 0, .int 0, .int 0, .int 0, .null])), (fl, .inr (4, [.int 0, .ref e0, .int 0]))]) [0, 1] rfl
    have hDc := hD.sub (ws' := [(xm, .inr (20, [.int 0, .int 0, .ref kn, .int 0, .int 0, .int 0, .ref ml, .ref cl, .ref rg, .ref tR, .ref (aK 0), .ref (aK 0), .ref fl, .int 0, .int 0, .int 0, .int 0, .int 0, .int 0, .int 0, .null])), (fl, .inr (4, [.int 0, .ref e0, .int 0]))]) [0, 1] (by decide) rfl
    have hKc := hK.sub (tys' := []) [] rfl
    have hFc := va_free (wc := [(xm, .inr (20, [.int 0, .int 0, .ref kn, .int 0, .int 0, .int 0, .ref ml, .ref cl, .ref rg, .ref tR, .ref (aK 0), .ref (aK 0), .ref fl, .int 0, .int 0, .int 0, .int 0, .int 0, .int 0, .int 0, .null])), (fl, .inr (4, [.int 0, .ref e0, .int 0]))]) hD hS hA [0, 1] rfl
    refine va_calll (va_runV (As := [.long w1, .int s3]) (rest := []) ⟨hx, hb, hml, hown, hts⟩ (c_X15_walk l dC dI xm ml cl fl kn rg tR e0 aK aV w1 s3 H.size) (cwV 2 hts gL_law_X15_walk rfl rfl rfl (by decide +kernel) ⟨Nat.le_of_ble_eq_true rfl, Nat.le_of_ble_eq_true rfl⟩) (pcVz (zM_ok e0 aK aV) hPc hDc hKc hN hZ.2 hS hFc (ci := 20) (q0 := 0) rfl rfl) rfl rfl hl.1 rfl (lv_room (Nat.le_of_ble_eq_true rfl)) dL_law_2625 ⟨Nat.le_of_ble_eq_true rfl, Nat.le_of_ble_eq_true rfl⟩) hS (fun q _ h => hFc q h) hFc (fun r_25 u t H1 locs ht hvm hw_26 hB hz1 hk1 hS => ?_)
    obtain fs_24 := u
    obtain ⟨hP1, hK1, hD1⟩ := hB
    rw [ht] at hP1
    try dsimp only at hw_26
    obtain ⟨hP, hD⟩ := va_join (wr := [(ou, .inl (cL, 1, .inr (.inl of_4)))]) (w1 := [(xm, .inr (20, fs_24))]) hP hD [0, 1] [2] rfl rfl (by decide) (by decide) hk1 hFc hP1 hD1
    generalize H1 = H at hP hS ⊢
    have hP : va_P (dC, dI) vwCl [(ou, .inl (cL, 1, .inr (.inl of_4))), (xm, .inr (20, fs_24))] H := hP
    have hD : va_D A [(ou, .inl (cL, 1, .inr (.inl of_4))), (xm, .inr (20, fs_24))] := hD
    refine W.widen (k := 203) (n := 60016) (Nat.le_of_ble_eq_true rfl) (Nat.le_of_ble_eq_true rfl) ?_
    have ht9 := hw_26.elim (fun h => absurd h.1 hPP) (fun h => h.2)
    refine lv_lstore (lv' := [(7, .long r_25), (6, .int 1), (0, .ref b), (1, .ref ya), (2, .ref xm), (3, .ref ou), (4, .ref od), (5, .int 0)]) hx hb dL_law_2628 hl (by decide) rfl (fun ls hl => ?_)
    refine lv_aload_n hx hb dL_law_2630 rfl (lv_at hl 4 rfl) ?_
    have hPc := hP.sub (ws' := [(xm, .inr (20, fs_24))]) [1] rfl
    have hDc := hD.sub (ws' := [(xm, .inr (20, fs_24))]) [1] (by decide) rfl
    have hKc := hK.sub (tys' := []) [] rfl
    have hFc := va_free (wc := [(xm, .inr (20, fs_24))]) hD hS hA [1] rfl
    refine va_calli (va_runV (As := []) (rest := []) ⟨hx, hb, hml, hown, hts⟩ (c_X15_thrown l dC dI xm fs_24 1 ht9 H.size) (cwV 0 hts gL_law_X15_thrown rfl rfl rfl (by decide +kernel) ⟨Nat.le_of_ble_eq_true rfl, Nat.le_of_ble_eq_true rfl⟩) (pcV hPc hDc hKc hN (ci := 20) (q0 := 0) rfl rfl) rfl rfl hl.1 rfl (lv_room (Nat.le_of_ble_eq_true rfl)) dL_law_2631 ⟨Nat.le_of_ble_eq_true rfl, Nat.le_of_ble_eq_true rfl⟩) hS (fun q _ h => hFc q h) hFc (fun r_27 u t H1 locs ht hvm hw_28 hB hz1 hk1 hS => ?_)
    obtain ⟨hP1, hK1, hD1⟩ := hB
    rw [ht] at hP1
    try dsimp only at hw_28
    obtain ⟨hP, hD⟩ := va_join (wr := [(ou, .inl (cL, 1, .inr (.inl of_4)))]) (w1 := []) hP hD [1] [0] rfl rfl (by decide) (by decide) hk1 hFc hP1 hD1
    generalize H1 = H at hP hS ⊢
    have hP : va_P (dC, dI) vwCl [(ou, .inl (cL, 1, .inr (.inl of_4)))] H := hP
    have hD : va_D A [(ou, .inl (cL, 1, .inr (.inl of_4)))] := hD
    obtain rfl : r_27 = 1 := hw_28
    refine lv_iload hx hb dL_law_2634 (lv_at hl 1 rfl) ?_
    refine lv_icmp_eq (tgt := 2641) hx hb dL_law_2636 (by decide) (fun c2636_29 => ?_) (fun c2636_29 => ?_)
    · refine lv_iload hx hb dL_law_2641 (lv_at hl 1 rfl) ?_
      refine lv_if_ne (tgt := 2657) hx hb dL_law_2643 (by decide) (fun c2643_30 => ?_) (fun c2643_30 => ?_)
      · refine lv_goto (tgt := 2778) hx hb dL_law_2657 (by decide) ?_
        refine W.widen (k := 600006) (n := 7302039) (Nat.le_of_ble_eq_true rfl) (Nat.le_of_ble_eq_true rfl) ?_
        exact law_end hx hb hr hml hX hbl hlocks hbA hAo hS (lv_sub hl [2, 7] rfl)
      · exact absurd c2643_30 (by decide)
    · exact (c2636_29 (by decide)).elim

set_option maxHeartbeats 8000000 in
set_option maxRecDepth 100000 in
/-- the law: law_38_walked -/
theorem law_38_walked {p : Program} {e : Env} {s : State} {m : MethodId} {below : List Frame} {meth : Method} {c : Code} {l : Launch} {b : Nat} {xs : Nat → Int32} (hx : p.tables.exec = Jvm.exec) (hb : c.code = cL_law) (hr : meth.sig.returnType = ret) (hml : c.maxLocals = 9) (hfl : l.stackTraces = false) (hown : s.vm.findClass RL = some m.cls) (hts : ∀ w ∈ wsL_law, w.before #[Value.ref b] s = true) (hX : va_X b 7 xs s s.heap) (hbl : b < s.heap.size) (hlocks : meth.locks = false) {A : Nat → Prop} (hbA : ¬ A b) (hAo : ∀ q, A q → s.heap.size ≤ q) (hA : ∀ q : Nat, s.heap.size ≤ q → A q) (dC : Nat → ClassId) (dI : Nat → Nat → Nat) (hN : nwA s) (e0 : Nat) (aK aV : Nat → Nat) (hZ : zX A s s.heap ∧ zM e0 aK aV A s s.heap) (ya ms ju rj tj ro rn tn rh th ca sa da xa wb z1 z2 jt z3 br z4 z5 z6 lk z7 z8 li bm l2 z9 bo h2 mm l1 z10 oo h1 ct cr cu cg cp co tg ts tr tk te fw fo fu xm ml cl fl rg tR ou od kn : Nat) (cI cM cS cL cD cB : ClassId) {H : Heap} {locs : List Loc} (hP : va_P (dC, dI) vwCl [(ya, .inr (16, [.ref ms, .int 0, .ref ju, .ref li, .ref ct, .ref tg, .ref fw])), (fw, .inr (6, [.int 0, .int 0, .int 0, .long 0, .ref fo, .ref fu])), (xm, .inr (20, [.int 0, .int 0, .ref kn, .int 0, .int 0, .int 0, .ref ml, .ref cl, .ref rg, .ref tR, .ref (aK 0), .ref (aK 0), .ref fl, .int 0, .int 0, .int 0, .int 0, .int 0, .int 0, .int 0, .null]))] H) (hD : va_D A [(ya, .inr (16, [.ref ms, .int 0, .ref ju, .ref li, .ref ct, .ref tg, .ref fw])), (fw, .inr (6, [.int 0, .int 0, .int 0, .long 0, .ref fo, .ref fu])), (xm, .inr (20, [.int 0, .int 0, .ref kn, .int 0, .int 0, .int 0, .ref ml, .ref cl, .ref rg, .ref tR, .ref (aK 0), .ref (aK 0), .ref fl, .int 0, .int 0, .int 0, .int 0, .int 0, .int 0, .int 0, .null]))]) (hK : va_K (dC, dI) vwCl [] s) (hS : va_S A s.heap H locs) {ls : Array Slot} (hl : lv_has ls 9 [(0, .ref b), (1, .ref ya), (2, .ref xm), (3, .ref ou), (4, .ref od), (5, .int 0)]) : W p l e room_1 s m #[Value.ref b] below meth c H locs 200 60000 (lw_Z below #[Value.ref b] s) (F0 m 2660 ls []) := by
  obtain ⟨s1, hs1⟩ : ∃ z, z = xs ((0 : Int32) + 1).toNatClampNeg := ⟨_, rfl⟩
  obtain ⟨s2, hs2⟩ : ∃ z, z = xs ((0 : Int32) + 2).toNatClampNeg := ⟨_, rfl⟩
  obtain ⟨s3, hs3⟩ : ∃ z, z = xs ((0 : Int32) + 3).toNatClampNeg := ⟨_, rfl⟩
  obtain ⟨s4, hs4⟩ : ∃ z, z = xs ((0 : Int32) + 4).toNatClampNeg := ⟨_, rfl⟩
  obtain ⟨s5, hs5⟩ : ∃ z, z = xs ((0 : Int32) + 5).toNatClampNeg := ⟨_, rfl⟩
  obtain ⟨s6, hs6⟩ : ∃ z, z = xs ((0 : Int32) + 6).toNatClampNeg := ⟨_, rfl⟩
  obtain ⟨k1, hk1⟩ : ∃ z, z = (s1.toUInt32 % 65536).toInt32 := ⟨_, rfl⟩
  obtain ⟨k2, hk2⟩ : ∃ z, z = (s2.toUInt32 % 65536).toInt32 := ⟨_, rfl⟩
  obtain ⟨k3, hk3⟩ : ∃ z, z = (s3.toUInt32 % 65536).toInt32 := ⟨_, rfl⟩
  obtain ⟨k4, hk4⟩ : ∃ z, z = (s4.toUInt32 % 65536).toInt32 := ⟨_, rfl⟩
  obtain ⟨k5, hk5⟩ : ∃ z, z = (s5.toUInt32 % 65536).toInt32 := ⟨_, rfl⟩
  obtain ⟨k6, hk6⟩ : ∃ z, z = (s6.toUInt32 % 65536).toInt32 := ⟨_, rfl⟩
  refine lv_aload_n hx hb dL_law_2660 rfl (lv_at hl 1 rfl) ?_
  have hPc := hP.sub (ws' := [(ya, .inr (16, [.ref ms, .int 0, .ref ju, .ref li, .ref ct, .ref tg, .ref fw])), (fw, .inr (6, [.int 0, .int 0, .int 0, .long 0, .ref fo, .ref fu]))]) [0, 1] rfl
  have hDc := hD.sub (ws' := [(ya, .inr (16, [.ref ms, .int 0, .ref ju, .ref li, .ref ct, .ref tg, .ref fw])), (fw, .inr (6, [.int 0, .int 0, .int 0, .long 0, .ref fo, .ref fu]))]) [0, 1] (by decide) rfl
  have hKc := hK.sub (tys' := []) [] rfl
  have hFc := va_free (wc := [(ya, .inr (16, [.ref ms, .int 0, .ref ju, .ref li, .ref ct, .ref tg, .ref fw])), (fw, .inr (6, [.int 0, .int 0, .int 0, .long 0, .ref fo, .ref fu]))]) hD hS hA [0, 1] rfl
  refine vx_calli (vx_runV (As := []) (rest := []) ⟨hx, hb, hml, hown, hts⟩ (c_X11_walked l hfl dC dI ya ms ju li ct tg fw fo fu 0 0 H.size) (cwV 0 hts gL_law_X11_walked rfl rfl rfl (by decide +kernel) ⟨Nat.le_of_ble_eq_true rfl, Nat.le_of_ble_eq_true rfl⟩) (pcVz (zX_ok) hPc hDc hKc hN hZ.1 hS hFc (ci := 16) (q0 := 0) rfl rfl) rfl rfl hl.1 rfl (lv_room (Nat.le_of_ble_eq_true rfl)) dL_law_2661 ⟨Nat.le_of_ble_eq_true rfl, Nat.le_of_ble_eq_true rfl⟩) hS (fun q _ h => hFc q h) hFc (fun q _ h => hFc q h) (fun E9 ce9 q9 u9 t9 H9 locs9 ht9 hvm9 hp9 hE9 hz9 hk9 hS9 hc9 hv9 hcl9 => hE9.elim) (fun r_1 u t H1 locs ht hvm hw_2 hB hz1 hk1 hS => ?_)
  obtain ⟨hP1, hK1, hD1⟩ := hB
  rw [ht] at hP1
  try dsimp only at hw_2
  obtain ⟨hP, hD⟩ := va_join (wr := [(xm, .inr (20, [.int 0, .int 0, .ref kn, .int 0, .int 0, .int 0, .ref ml, .ref cl, .ref rg, .ref tR, .ref (aK 0), .ref (aK 0), .ref fl, .int 0, .int 0, .int 0, .int 0, .int 0, .int 0, .int 0, .null]))]) (w1 := []) hP hD [0, 1] [2] rfl rfl (by decide) (by decide) hk1 hFc hP1 hD1
  generalize H1 = H at hP hS ⊢
  have hP : va_P (dC, dI) vwCl [(xm, .inr (20, [.int 0, .int 0, .ref kn, .int 0, .int 0, .int 0, .ref ml, .ref cl, .ref rg, .ref tR, .ref (aK 0), .ref (aK 0), .ref fl, .int 0, .int 0, .int 0, .int 0, .int 0, .int 0, .int 0, .null]))] H := hP
  have hD : va_D A [(xm, .inr (20, [.int 0, .int 0, .ref kn, .int 0, .int 0, .int 0, .ref ml, .ref cl, .ref rg, .ref tR, .ref (aK 0), .ref (aK 0), .ref fl, .int 0, .int 0, .int 0, .int 0, .int 0, .int 0, .int 0, .null]))] := hD
  obtain rfl : r_1 = 0 := hw_2
  refine lv_aload_n hx hb dL_law_2664 rfl (lv_at hl 2 rfl) ?_
  have hPc := hP.sub (ws' := [(xm, .inr (20, [.int 0, .int 0, .ref kn, .int 0, .int 0, .int 0, .ref ml, .ref cl, .ref rg, .ref tR, .ref (aK 0), .ref (aK 0), .ref fl, .int 0, .int 0, .int 0, .int 0, .int 0, .int 0, .int 0, .null]))]) [0] rfl
  have hDc := hD.sub (ws' := [(xm, .inr (20, [.int 0, .int 0, .ref kn, .int 0, .int 0, .int 0, .ref ml, .ref cl, .ref rg, .ref tR, .ref (aK 0), .ref (aK 0), .ref fl, .int 0, .int 0, .int 0, .int 0, .int 0, .int 0, .int 0, .null]))]) [0] (by decide) rfl
  have hKc := hK.sub (tys' := []) [] rfl
  have hFc := va_free (wc := [(xm, .inr (20, [.int 0, .int 0, .ref kn, .int 0, .int 0, .int 0, .ref ml, .ref cl, .ref rg, .ref tR, .ref (aK 0), .ref (aK 0), .ref fl, .int 0, .int 0, .int 0, .int 0, .int 0, .int 0, .int 0, .null]))]) hD hS hA [0] rfl
  refine va_calli (va_runV (As := []) (rest := [.int 0]) ⟨hx, hb, hml, hown, hts⟩ (c_X15_walked l dC dI xm ml cl fl kn rg tR e0 aK aV H.size) (cwV 0 hts gL_law_X15_walked rfl rfl rfl (by decide +kernel) ⟨Nat.le_of_ble_eq_true rfl, Nat.le_of_ble_eq_true rfl⟩) (pcV hPc hDc hKc hN (ci := 20) (q0 := 0) rfl rfl) rfl rfl hl.1 rfl (lv_room (Nat.le_of_ble_eq_true rfl)) dL_law_2665 ⟨Nat.le_of_ble_eq_true rfl, Nat.le_of_ble_eq_true rfl⟩) hS (fun q _ h => hFc q h) hFc (fun r_4 u t H1 locs ht hvm hw_5 hB hz1 hk1 hS => ?_)
  obtain fs_3 := u
  obtain ⟨hP1, hK1, hD1⟩ := hB
  rw [ht] at hP1
  try dsimp only at hw_5
  obtain ⟨hP, hD⟩ := va_join (wr := []) (w1 := [(xm, .inr (20, fs_3))]) hP hD [0] [] rfl rfl (by decide) (by decide) hk1 hFc hP1 hD1
  generalize H1 = H at hP hS ⊢
  have hP : va_P (dC, dI) vwCl [(xm, .inr (20, fs_3))] H := hP
  have hD : va_D A [(xm, .inr (20, fs_3))] := hD
  obtain rfl : r_4 = 0 := hw_5.2
  refine lv_icmp_eq (tgt := 2778) hx hb dL_law_2668 (by decide) (fun c2668_6 => ?_) (fun c2668_6 => ?_)
  · refine W.widen (k := 600006) (n := 7302039) (Nat.le_of_ble_eq_true rfl) (Nat.le_of_ble_eq_true rfl) ?_
    exact law_end hx hb hr hml hX hbl hlocks hbA hAo hS (lv_sub hl [0, 5] rfl)
  · exact (c2668_6 (by decide)).elim

set_option maxHeartbeats 8000000 in
set_option maxRecDepth 100000 in
/-- the law: law_39_hasWalked -/
theorem law_39_hasWalked {p : Program} {e : Env} {s : State} {m : MethodId} {below : List Frame} {meth : Method} {c : Code} {l : Launch} {b : Nat} {xs : Nat → Int32} (hx : p.tables.exec = Jvm.exec) (hb : c.code = cL_law) (hr : meth.sig.returnType = ret) (hml : c.maxLocals = 9) (hfl : l.stackTraces = false) (hown : s.vm.findClass RL = some m.cls) (hts : ∀ w ∈ wsL_law, w.before #[Value.ref b] s = true) (hX : va_X b 7 xs s s.heap) (hbl : b < s.heap.size) (hlocks : meth.locks = false) {A : Nat → Prop} (hbA : ¬ A b) (hAo : ∀ q, A q → s.heap.size ≤ q) (hA : ∀ q : Nat, s.heap.size ≤ q → A q) (dC : Nat → ClassId) (dI : Nat → Nat → Nat) (hN : nwA s) (e0 : Nat) (aK aV : Nat → Nat) (hZ : zX A s s.heap ∧ zM e0 aK aV A s s.heap) (ya ms ju rj tj ro rn tn rh th ca sa da xa wb z1 z2 jt z3 br z4 z5 z6 lk z7 z8 li bm l2 z9 bo h2 mm l1 z10 oo h1 ct cr cu cg cp co tg ts tr tk te fw fo fu xm ml cl fl rg tR ou od kn : Nat) (cI cM cS cL cD cB : ClassId) {H : Heap} {locs : List Loc} (hP : va_P (dC, dI) vwCl [(ya, .inr (16, [.ref ms, .int 0, .ref ju, .ref li, .ref ct, .ref tg, .ref fw])), (fw, .inr (6, [.int 0, .int 0, .int 0, .long 0, .ref fo, .ref fu])), (xm, .inr (20, [.int 0, .int 0, .ref kn, .int 0, .int 0, .int 0, .ref ml, .ref cl, .ref rg, .ref tR, .ref (aK 0), .ref (aK 0), .ref fl, .int 0, .int 0, .int 0, .int 0, .int 0, .int 0, .int 0, .null]))] H) (hD : va_D A [(ya, .inr (16, [.ref ms, .int 0, .ref ju, .ref li, .ref ct, .ref tg, .ref fw])), (fw, .inr (6, [.int 0, .int 0, .int 0, .long 0, .ref fo, .ref fu])), (xm, .inr (20, [.int 0, .int 0, .ref kn, .int 0, .int 0, .int 0, .ref ml, .ref cl, .ref rg, .ref tR, .ref (aK 0), .ref (aK 0), .ref fl, .int 0, .int 0, .int 0, .int 0, .int 0, .int 0, .int 0, .null]))]) (hK : va_K (dC, dI) vwCl [] s) (hS : va_S A s.heap H locs) {ls : Array Slot} (hl : lv_has ls 9 [(0, .ref b), (1, .ref ya), (2, .ref xm), (3, .ref ou), (4, .ref od), (5, .int 0)]) : W p l e room_1 s m #[Value.ref b] below meth c H locs 200 60000 (lw_Z below #[Value.ref b] s) (F0 m 2673 ls []) := by
  obtain ⟨s1, hs1⟩ : ∃ z, z = xs ((0 : Int32) + 1).toNatClampNeg := ⟨_, rfl⟩
  obtain ⟨s2, hs2⟩ : ∃ z, z = xs ((0 : Int32) + 2).toNatClampNeg := ⟨_, rfl⟩
  obtain ⟨s3, hs3⟩ : ∃ z, z = xs ((0 : Int32) + 3).toNatClampNeg := ⟨_, rfl⟩
  obtain ⟨s4, hs4⟩ : ∃ z, z = xs ((0 : Int32) + 4).toNatClampNeg := ⟨_, rfl⟩
  obtain ⟨s5, hs5⟩ : ∃ z, z = xs ((0 : Int32) + 5).toNatClampNeg := ⟨_, rfl⟩
  obtain ⟨s6, hs6⟩ : ∃ z, z = xs ((0 : Int32) + 6).toNatClampNeg := ⟨_, rfl⟩
  obtain ⟨k1, hk1⟩ : ∃ z, z = (s1.toUInt32 % 65536).toInt32 := ⟨_, rfl⟩
  obtain ⟨k2, hk2⟩ : ∃ z, z = (s2.toUInt32 % 65536).toInt32 := ⟨_, rfl⟩
  obtain ⟨k3, hk3⟩ : ∃ z, z = (s3.toUInt32 % 65536).toInt32 := ⟨_, rfl⟩
  obtain ⟨k4, hk4⟩ : ∃ z, z = (s4.toUInt32 % 65536).toInt32 := ⟨_, rfl⟩
  obtain ⟨k5, hk5⟩ : ∃ z, z = (s5.toUInt32 % 65536).toInt32 := ⟨_, rfl⟩
  obtain ⟨k6, hk6⟩ : ∃ z, z = (s6.toUInt32 % 65536).toInt32 := ⟨_, rfl⟩
  refine lv_aload_n hx hb dL_law_2673 rfl (lv_at hl 1 rfl) ?_
  have hPc := hP.sub (ws' := [(ya, .inr (16, [.ref ms, .int 0, .ref ju, .ref li, .ref ct, .ref tg, .ref fw])), (fw, .inr (6, [.int 0, .int 0, .int 0, .long 0, .ref fo, .ref fu]))]) [0, 1] rfl
  have hDc := hD.sub (ws' := [(ya, .inr (16, [.ref ms, .int 0, .ref ju, .ref li, .ref ct, .ref tg, .ref fw])), (fw, .inr (6, [.int 0, .int 0, .int 0, .long 0, .ref fo, .ref fu]))]) [0, 1] (by decide) rfl
  have hKc := hK.sub (tys' := []) [] rfl
  have hFc := va_free (wc := [(ya, .inr (16, [.ref ms, .int 0, .ref ju, .ref li, .ref ct, .ref tg, .ref fw])), (fw, .inr (6, [.int 0, .int 0, .int 0, .long 0, .ref fo, .ref fu]))]) hD hS hA [0, 1] rfl
  refine vx_calli (vx_runV (As := []) (rest := []) ⟨hx, hb, hml, hown, hts⟩ (c_X11_hasWalked l hfl dC dI ya ms ju li ct tg fw fo fu 0 0 H.size) (cwV 0 hts gL_law_X11_hasWalked rfl rfl rfl (by decide +kernel) ⟨Nat.le_of_ble_eq_true rfl, Nat.le_of_ble_eq_true rfl⟩) (pcVz (zX_ok) hPc hDc hKc hN hZ.1 hS hFc (ci := 16) (q0 := 0) rfl rfl) rfl rfl hl.1 rfl (lv_room (Nat.le_of_ble_eq_true rfl)) dL_law_2674 ⟨Nat.le_of_ble_eq_true rfl, Nat.le_of_ble_eq_true rfl⟩) hS (fun q _ h => hFc q h) hFc (fun q _ h => hFc q h) (fun E9 ce9 q9 u9 t9 H9 locs9 ht9 hvm9 hp9 hE9 hz9 hk9 hS9 hc9 hv9 hcl9 => hE9.elim) (fun r_1 u t H1 locs ht hvm hw_2 hB hz1 hk1 hS => ?_)
  obtain ⟨hP1, hK1, hD1⟩ := hB
  rw [ht] at hP1
  try dsimp only at hw_2
  obtain ⟨hP, hD⟩ := va_join (wr := [(xm, .inr (20, [.int 0, .int 0, .ref kn, .int 0, .int 0, .int 0, .ref ml, .ref cl, .ref rg, .ref tR, .ref (aK 0), .ref (aK 0), .ref fl, .int 0, .int 0, .int 0, .int 0, .int 0, .int 0, .int 0, .null]))]) (w1 := []) hP hD [0, 1] [2] rfl rfl (by decide) (by decide) hk1 hFc hP1 hD1
  generalize H1 = H at hP hS ⊢
  have hP : va_P (dC, dI) vwCl [(xm, .inr (20, [.int 0, .int 0, .ref kn, .int 0, .int 0, .int 0, .ref ml, .ref cl, .ref rg, .ref tR, .ref (aK 0), .ref (aK 0), .ref fl, .int 0, .int 0, .int 0, .int 0, .int 0, .int 0, .int 0, .null]))] H := hP
  have hD : va_D A [(xm, .inr (20, [.int 0, .int 0, .ref kn, .int 0, .int 0, .int 0, .ref ml, .ref cl, .ref rg, .ref tR, .ref (aK 0), .ref (aK 0), .ref fl, .int 0, .int 0, .int 0, .int 0, .int 0, .int 0, .int 0, .null]))] := hD
  obtain rfl : r_1 = 0 := hw_2
  refine lv_aload_n hx hb dL_law_2677 rfl (lv_at hl 2 rfl) ?_
  have hPc := hP.sub (ws' := [(xm, .inr (20, [.int 0, .int 0, .ref kn, .int 0, .int 0, .int 0, .ref ml, .ref cl, .ref rg, .ref tR, .ref (aK 0), .ref (aK 0), .ref fl, .int 0, .int 0, .int 0, .int 0, .int 0, .int 0, .int 0, .null]))]) [0] rfl
  have hDc := hD.sub (ws' := [(xm, .inr (20, [.int 0, .int 0, .ref kn, .int 0, .int 0, .int 0, .ref ml, .ref cl, .ref rg, .ref tR, .ref (aK 0), .ref (aK 0), .ref fl, .int 0, .int 0, .int 0, .int 0, .int 0, .int 0, .int 0, .null]))]) [0] (by decide) rfl
  have hKc := hK.sub (tys' := []) [] rfl
  have hFc := va_free (wc := [(xm, .inr (20, [.int 0, .int 0, .ref kn, .int 0, .int 0, .int 0, .ref ml, .ref cl, .ref rg, .ref tR, .ref (aK 0), .ref (aK 0), .ref fl, .int 0, .int 0, .int 0, .int 0, .int 0, .int 0, .int 0, .null]))]) hD hS hA [0] rfl
  refine va_calli (va_runV (As := []) (rest := [.int 0]) ⟨hx, hb, hml, hown, hts⟩ (c_X15_hasWalked l dC dI xm ml cl fl kn rg tR e0 aK aV H.size) (cwV 0 hts gL_law_X15_hasWalked rfl rfl rfl (by decide +kernel) ⟨Nat.le_of_ble_eq_true rfl, Nat.le_of_ble_eq_true rfl⟩) (pcV hPc hDc hKc hN (ci := 20) (q0 := 0) rfl rfl) rfl rfl hl.1 rfl (lv_room (Nat.le_of_ble_eq_true rfl)) dL_law_2678 ⟨Nat.le_of_ble_eq_true rfl, Nat.le_of_ble_eq_true rfl⟩) hS (fun q _ h => hFc q h) hFc (fun r_4 u t H1 locs ht hvm hw_5 hB hz1 hk1 hS => ?_)
  obtain fs_3 := u
  obtain ⟨hP1, hK1, hD1⟩ := hB
  rw [ht] at hP1
  try dsimp only at hw_5
  obtain ⟨hP, hD⟩ := va_join (wr := []) (w1 := [(xm, .inr (20, fs_3))]) hP hD [0] [] rfl rfl (by decide) (by decide) hk1 hFc hP1 hD1
  generalize H1 = H at hP hS ⊢
  have hP : va_P (dC, dI) vwCl [(xm, .inr (20, fs_3))] H := hP
  have hD : va_D A [(xm, .inr (20, fs_3))] := hD
  obtain rfl : r_4 = 0 := hw_5.2
  refine lv_icmp_eq (tgt := 2778) hx hb dL_law_2681 (by decide) (fun c2681_6 => ?_) (fun c2681_6 => ?_)
  · refine W.widen (k := 600006) (n := 7302039) (Nat.le_of_ble_eq_true rfl) (Nat.le_of_ble_eq_true rfl) ?_
    exact law_end hx hb hr hml hX hbl hlocks hbA hAo hS (lv_sub hl [0, 5] rfl)
  · exact (c2681_6 (by decide)).elim

set_option maxHeartbeats 8000000 in
set_option maxRecDepth 100000 in
/-- the law: law_40_meanMarks -/
theorem law_40_meanMarks {p : Program} {e : Env} {s : State} {m : MethodId} {below : List Frame} {meth : Method} {c : Code} {l : Launch} {b : Nat} {xs : Nat → Int32} (hx : p.tables.exec = Jvm.exec) (hb : c.code = cL_law) (hr : meth.sig.returnType = ret) (hml : c.maxLocals = 9) (hfl : l.stackTraces = false) (hown : s.vm.findClass RL = some m.cls) (hts : ∀ w ∈ wsL_law, w.before #[Value.ref b] s = true) (hX : va_X b 7 xs s s.heap) (hbl : b < s.heap.size) (hlocks : meth.locks = false) {A : Nat → Prop} (hbA : ¬ A b) (hAo : ∀ q, A q → s.heap.size ≤ q) (hA : ∀ q : Nat, s.heap.size ≤ q → A q) (dC : Nat → ClassId) (dI : Nat → Nat → Nat) (hN : nwA s) (e0 : Nat) (aK aV : Nat → Nat) (hZ : zX A s s.heap ∧ zM e0 aK aV A s s.heap) (ya ms ju rj tj ro rn tn rh th ca sa da xa wb z1 z2 jt z3 br z4 z5 z6 lk z7 z8 li bm l2 z9 bo h2 mm l1 z10 oo h1 ct cr cu cg cp co tg ts tr tk te fw fo fu xm ml cl fl rg tR ou od kn : Nat) (cI cM cS cL cD cB : ClassId) {H : Heap} {locs : List Loc} (hP : va_P (dC, dI) vwCl [(ya, .inr (16, [.ref ms, .int 0, .ref ju, .ref li, .ref ct, .ref tg, .ref fw])), (od, .inl (cD, 1, .inr (.inr (.inr (.inl (fun _ => 0)))))), (xm, .inr (20, [.int 0, .int 0, .ref kn, .int 0, .int 0, .int 0, .ref ml, .ref cl, .ref rg, .ref tR, .ref (aK 0), .ref (aK 0), .ref fl, .int 0, .int 0, .int 0, .int 0, .int 0, .int 0, .int 0, .null])), (ml, .inr (4, [.int 0, .ref e0, .int 0]))] H) (hD : va_D A [(ya, .inr (16, [.ref ms, .int 0, .ref ju, .ref li, .ref ct, .ref tg, .ref fw])), (od, .inl (cD, 1, .inr (.inr (.inr (.inl (fun _ => 0)))))), (xm, .inr (20, [.int 0, .int 0, .ref kn, .int 0, .int 0, .int 0, .ref ml, .ref cl, .ref rg, .ref tR, .ref (aK 0), .ref (aK 0), .ref fl, .int 0, .int 0, .int 0, .int 0, .int 0, .int 0, .int 0, .null])), (ml, .inr (4, [.int 0, .ref e0, .int 0]))]) (hK : va_K (dC, dI) vwCl [(cD, .double)] s) (hS : va_S A s.heap H locs) {ls : Array Slot} (hl : lv_has ls 9 [(0, .ref b), (1, .ref ya), (2, .ref xm), (3, .ref ou), (4, .ref od), (5, .int 0)]) : W p l e room_1 s m #[Value.ref b] below meth c H locs 200 60000 (lw_Z below #[Value.ref b] s) (F0 m 2686 ls []) := by
  obtain ⟨s1, hs1⟩ : ∃ z, z = xs ((0 : Int32) + 1).toNatClampNeg := ⟨_, rfl⟩
  obtain ⟨s2, hs2⟩ : ∃ z, z = xs ((0 : Int32) + 2).toNatClampNeg := ⟨_, rfl⟩
  obtain ⟨s3, hs3⟩ : ∃ z, z = xs ((0 : Int32) + 3).toNatClampNeg := ⟨_, rfl⟩
  obtain ⟨s4, hs4⟩ : ∃ z, z = xs ((0 : Int32) + 4).toNatClampNeg := ⟨_, rfl⟩
  obtain ⟨s5, hs5⟩ : ∃ z, z = xs ((0 : Int32) + 5).toNatClampNeg := ⟨_, rfl⟩
  obtain ⟨s6, hs6⟩ : ∃ z, z = xs ((0 : Int32) + 6).toNatClampNeg := ⟨_, rfl⟩
  obtain ⟨k1, hk1⟩ : ∃ z, z = (s1.toUInt32 % 65536).toInt32 := ⟨_, rfl⟩
  obtain ⟨k2, hk2⟩ : ∃ z, z = (s2.toUInt32 % 65536).toInt32 := ⟨_, rfl⟩
  obtain ⟨k3, hk3⟩ : ∃ z, z = (s3.toUInt32 % 65536).toInt32 := ⟨_, rfl⟩
  obtain ⟨k4, hk4⟩ : ∃ z, z = (s4.toUInt32 % 65536).toInt32 := ⟨_, rfl⟩
  obtain ⟨k5, hk5⟩ : ∃ z, z = (s5.toUInt32 % 65536).toInt32 := ⟨_, rfl⟩
  obtain ⟨k6, hk6⟩ : ∃ z, z = (s6.toUInt32 % 65536).toInt32 := ⟨_, rfl⟩
  refine lv_aload_n hx hb dL_law_2686 rfl (lv_at hl 1 rfl) ?_
  refine lv_aload hx hb dL_law_2687 (lv_at hl 4 rfl) ?_
  have hPc := hP.sub (ws' := [(ya, .inr (16, [.ref ms, .int 0, .ref ju, .ref li, .ref ct, .ref tg, .ref fw])), (od, .inl (cD, 1, .inr (.inr (.inr (.inl (fun _ => 0))))))]) [0, 1] rfl
  have hDc := hD.sub (ws' := [(ya, .inr (16, [.ref ms, .int 0, .ref ju, .ref li, .ref ct, .ref tg, .ref fw])), (od, .inl (cD, 1, .inr (.inr (.inr (.inl (fun _ => 0))))))]) [0, 1] (by decide) rfl
  have hKc := hK.sub (tys' := [(cD, .double)]) [0] rfl
  have hFc := va_free (wc := [(ya, .inr (16, [.ref ms, .int 0, .ref ju, .ref li, .ref ct, .ref tg, .ref fw])), (od, .inl (cD, 1, .inr (.inr (.inr (.inl (fun _ => 0))))))]) hD hS hA [0, 1] rfl
  refine vx_calli (vx_runSX (As := [.ref ya, .ref od]) (rest := []) ⟨hx, hb, hml, hown, hts⟩ (c_L_meanMarks l hfl dC dI ya ms ju li ct tg fw cD od (fun _ => 0) H.size) (vx_cwSW 2 hts gL_law_L_meanMarks rfl rfl rfl (by decide +kernel) ⟨Nat.le_of_ble_eq_true rfl, Nat.le_of_ble_eq_true rfl⟩) (pcSz (zX_ok) hPc hDc hKc hN hZ.1 hS hFc) rfl rfl hl.1 rfl (lv_room (Nat.le_of_ble_eq_true rfl)) dL_law_2689 ⟨Nat.le_of_ble_eq_true rfl, Nat.le_of_ble_eq_true rfl⟩) hS (fun q _ h => hFc q h) hFc (fun q _ h => hFc q h) (fun E9 ce9 q9 u9 t9 H9 locs9 ht9 hvm9 hp9 hE9 hz9 hk9 hS9 hc9 hv9 hcl9 => hE9.elim) (fun r_2 u t H1 locs ht hvm hw_3 hB hz1 hk1 hS => ?_)
  obtain of_1 := u
  obtain ⟨hP1, hK1, hD1⟩ := hB
  rw [ht] at hP1
  try dsimp only at hw_3
  obtain ⟨hP, hD⟩ := va_join (wr := [(xm, .inr (20, [.int 0, .int 0, .ref kn, .int 0, .int 0, .int 0, .ref ml, .ref cl, .ref rg, .ref tR, .ref (aK 0), .ref (aK 0), .ref fl, .int 0, .int 0, .int 0, .int 0, .int 0, .int 0, .int 0, .null])), (ml, .inr (4, [.int 0, .ref e0, .int 0]))]) (w1 := [(od, .inl (cD, 1, .inr (.inr (.inr (.inl of_1)))))]) hP hD [0, 1] [2, 3] rfl rfl (by decide) (by decide) hk1 hFc hP1 hD1
  generalize H1 = H at hP hS ⊢
  have hP : va_P (dC, dI) vwCl [(xm, .inr (20, [.int 0, .int 0, .ref kn, .int 0, .int 0, .int 0, .ref ml, .ref cl, .ref rg, .ref tR, .ref (aK 0), .ref (aK 0), .ref fl, .int 0, .int 0, .int 0, .int 0, .int 0, .int 0, .int 0, .null])), (ml, .inr (4, [.int 0, .ref e0, .int 0])), (od, .inl (cD, 1, .inr (.inr (.inr (.inl of_1)))))] H := hP
  have hD : va_D A [(xm, .inr (20, [.int 0, .int 0, .ref kn, .int 0, .int 0, .int 0, .ref ml, .ref cl, .ref rg, .ref tR, .ref (aK 0), .ref (aK 0), .ref fl, .int 0, .int 0, .int 0, .int 0, .int 0, .int 0, .int 0, .null])), (ml, .inr (4, [.int 0, .ref e0, .int 0])), (od, .inl (cD, 1, .inr (.inr (.inr (.inl of_1)))))] := hD
  refine W.widen (k := 201) (n := 60006) (Nat.le_of_ble_eq_true rfl) (Nat.le_of_ble_eq_true rfl) ?_
  obtain rfl : r_2 = 1 := hw_3
  refine lv_istore (lv' := [(6, .int 1), (0, .ref b), (1, .ref ya), (2, .ref xm), (3, .ref ou), (4, .ref od), (5, .int 0)]) hx hb dL_law_2692 hl (by decide) rfl (fun ls hl => ?_)
  refine lv_aload_n hx hb dL_law_2694 rfl (lv_at hl 3 rfl) ?_
  have hPc := hP.sub (ws' := [(xm, .inr (20, [.int 0, .int 0, .ref kn, .int 0, .int 0, .int 0, .ref ml, .ref cl, .ref rg, .ref tR, .ref (aK 0), .ref (aK 0), .ref fl, .int 0, .int 0, .int 0, .int 0, .int 0, .int 0, .int 0, .null])), (ml, .inr (4, [.int 0, .ref e0, .int 0]))]) [0, 1] rfl
  have hDc := hD.sub (ws' := [(xm, .inr (20, [.int 0, .int 0, .ref kn, .int 0, .int 0, .int 0, .ref ml, .ref cl, .ref rg, .ref tR, .ref (aK 0), .ref (aK 0), .ref fl, .int 0, .int 0, .int 0, .int 0, .int 0, .int 0, .int 0, .null])), (ml, .inr (4, [.int 0, .ref e0, .int 0]))]) [0, 1] (by decide) rfl
  have hKc := hK.sub (tys' := []) [] rfl
  have hFc := va_free (wc := [(xm, .inr (20, [.int 0, .int 0, .ref kn, .int 0, .int 0, .int 0, .ref ml, .ref cl, .ref rg, .ref tR, .ref (aK 0), .ref (aK 0), .ref fl, .int 0, .int 0, .int 0, .int 0, .int 0, .int 0, .int 0, .null])), (ml, .inr (4, [.int 0, .ref e0, .int 0]))]) hD hS hA [0, 1] rfl
  refine va_calld (va_runV (As := []) (rest := []) ⟨hx, hb, hml, hown, hts⟩ (c_X15_meanMarks l dC dI xm ml cl fl kn rg tR e0 aK aV H.size) (cwV 0 hts gL_law_X15_meanMarks rfl rfl rfl (by decide +kernel) ⟨Nat.le_of_ble_eq_true rfl, Nat.le_of_ble_eq_true rfl⟩) (pcVz (zM_ok e0 aK aV) hPc hDc hKc hN hZ.2 hS hFc (ci := 20) (q0 := 0) rfl rfl) rfl rfl hl.1 rfl (lv_room (Nat.le_of_ble_eq_true rfl)) dL_law_2695 ⟨Nat.le_of_ble_eq_true rfl, Nat.le_of_ble_eq_true rfl⟩) hS (fun q _ h => hFc q h) hFc (fun r_5 u t H1 locs ht hvm hw_6 hB hz1 hk1 hS => ?_)
  obtain fs_4 := u
  obtain ⟨hP1, hK1, hD1⟩ := hB
  rw [ht] at hP1
  try dsimp only at hw_6
  obtain ⟨hP, hD⟩ := va_join (wr := [(od, .inl (cD, 1, .inr (.inr (.inr (.inl of_1)))))]) (w1 := [(xm, .inr (20, fs_4))]) hP hD [0, 1] [2] rfl rfl (by decide) (by decide) hk1 hFc hP1 hD1
  generalize H1 = H at hP hS ⊢
  have hP : va_P (dC, dI) vwCl [(od, .inl (cD, 1, .inr (.inr (.inr (.inl of_1))))), (xm, .inr (20, fs_4))] H := hP
  have hD : va_D A [(od, .inl (cD, 1, .inr (.inr (.inr (.inl of_1))))), (xm, .inr (20, fs_4))] := hD
  refine W.widen (k := 202) (n := 60010) (Nat.le_of_ble_eq_true rfl) (Nat.le_of_ble_eq_true rfl) ?_
  refine lv_dstore (lv' := [(7, .double r_5), (6, .int 1), (0, .ref b), (1, .ref ya), (2, .ref xm), (3, .ref ou), (4, .ref od), (5, .int 0)]) hx hb dL_law_2698 hl (by decide) rfl (fun ls hl => ?_)
  refine lv_aload_n hx hb dL_law_2700 rfl (lv_at hl 4 rfl) ?_
  have hPc := hP.sub (ws' := [(xm, .inr (20, fs_4))]) [1] rfl
  have hDc := hD.sub (ws' := [(xm, .inr (20, fs_4))]) [1] (by decide) rfl
  have hKc := hK.sub (tys' := []) [] rfl
  have hFc := va_free (wc := [(xm, .inr (20, fs_4))]) hD hS hA [1] rfl
  refine va_calli (va_runV (As := []) (rest := []) ⟨hx, hb, hml, hown, hts⟩ (c_X15_thrown l dC dI xm fs_4 1 hw_6 H.size) (cwV 0 hts gL_law_X15_thrown rfl rfl rfl (by decide +kernel) ⟨Nat.le_of_ble_eq_true rfl, Nat.le_of_ble_eq_true rfl⟩) (pcV hPc hDc hKc hN (ci := 20) (q0 := 0) rfl rfl) rfl rfl hl.1 rfl (lv_room (Nat.le_of_ble_eq_true rfl)) dL_law_2701 ⟨Nat.le_of_ble_eq_true rfl, Nat.le_of_ble_eq_true rfl⟩) hS (fun q _ h => hFc q h) hFc (fun r_7 u t H1 locs ht hvm hw_8 hB hz1 hk1 hS => ?_)
  obtain ⟨hP1, hK1, hD1⟩ := hB
  rw [ht] at hP1
  try dsimp only at hw_8
  obtain ⟨hP, hD⟩ := va_join (wr := [(od, .inl (cD, 1, .inr (.inr (.inr (.inl of_1)))))]) (w1 := []) hP hD [1] [0] rfl rfl (by decide) (by decide) hk1 hFc hP1 hD1
  generalize H1 = H at hP hS ⊢
  have hP : va_P (dC, dI) vwCl [(od, .inl (cD, 1, .inr (.inr (.inr (.inl of_1)))))] H := hP
  have hD : va_D A [(od, .inl (cD, 1, .inr (.inr (.inr (.inl of_1)))))] := hD
  obtain rfl : r_7 = 1 := hw_8
  refine lv_iload hx hb dL_law_2704 (lv_at hl 1 rfl) ?_
  refine lv_icmp_eq (tgt := 2711) hx hb dL_law_2706 (by decide) (fun c2706_9 => ?_) (fun c2706_9 => ?_)
  · refine lv_iload hx hb dL_law_2711 (lv_at hl 1 rfl) ?_
    refine lv_if_ne (tgt := 2748) hx hb dL_law_2713 (by decide) (fun c2713_10 => ?_) (fun c2713_10 => ?_)
    · refine lv_goto (tgt := 2778) hx hb dL_law_2748 (by decide) ?_
      refine W.widen (k := 600006) (n := 7302039) (Nat.le_of_ble_eq_true rfl) (Nat.le_of_ble_eq_true rfl) ?_
      exact law_end hx hb hr hml hX hbl hlocks hbA hAo hS (lv_sub hl [2, 7] rfl)
    · exact absurd c2713_10 (by decide)
  · exact (c2706_9 (by decide)).elim

set_option maxHeartbeats 8000000 in
set_option maxRecDepth 100000 in
/-- the law: law_41_checksum -/
theorem law_41_checksum {p : Program} {e : Env} {s : State} {m : MethodId} {below : List Frame} {meth : Method} {c : Code} {l : Launch} {b : Nat} {xs : Nat → Int32} (hx : p.tables.exec = Jvm.exec) (hb : c.code = cL_law) (hr : meth.sig.returnType = ret) (hml : c.maxLocals = 9) (hfl : l.stackTraces = false) (hown : s.vm.findClass RL = some m.cls) (hts : ∀ w ∈ wsL_law, w.before #[Value.ref b] s = true) (hX : va_X b 7 xs s s.heap) (hbl : b < s.heap.size) (hlocks : meth.locks = false) {A : Nat → Prop} (hbA : ¬ A b) (hAo : ∀ q, A q → s.heap.size ≤ q) (hA : ∀ q : Nat, s.heap.size ≤ q → A q) (dC : Nat → ClassId) (dI : Nat → Nat → Nat) (hN : nwA s) (e0 : Nat) (aK aV : Nat → Nat) (hZ : zX A s s.heap ∧ zM e0 aK aV A s s.heap) (ya ms ju rj tj ro rn tn rh th ca sa da xa wb z1 z2 jt z3 br z4 z5 z6 lk z7 z8 li bm l2 z9 bo h2 mm l1 z10 oo h1 ct cr cu cg cp co tg ts tr tk te fw fo fu xm ml cl fl rg tR ou od kn : Nat) (cI cM cS cL cD cB : ClassId) {H : Heap} {locs : List Loc} (hP : va_P (dC, dI) vwCl [(ya, .inr (16, [.ref ms, .int 0, .ref ju, .ref li, .ref ct, .ref tg, .ref fw])), (xm, .inr (20, [.int 0, .int 0, .ref kn, .int 0, .int 0, .int 0, .ref ml, .ref cl, .ref rg, .ref tR, .ref (aK 0), .ref (aK 0), .ref fl, .int 0, .int 0, .int 0, .int 0, .int 0, .int 0, .int 0, .null])), (ml, .inr (4, [.int 0, .ref e0, .int 0]))] H) (hD : va_D A [(ya, .inr (16, [.ref ms, .int 0, .ref ju, .ref li, .ref ct, .ref tg, .ref fw])), (xm, .inr (20, [.int 0, .int 0, .ref kn, .int 0, .int 0, .int 0, .ref ml, .ref cl, .ref rg, .ref tR, .ref (aK 0), .ref (aK 0), .ref fl, .int 0, .int 0, .int 0, .int 0, .int 0, .int 0, .int 0, .null])), (ml, .inr (4, [.int 0, .ref e0, .int 0]))]) (hK : va_K (dC, dI) vwCl [] s) (hS : va_S A s.heap H locs) {ls : Array Slot} (hl : lv_has ls 9 [(0, .ref b), (1, .ref ya), (2, .ref xm), (3, .ref ou), (4, .ref od), (5, .int 0)]) : W p l e room_1 s m #[Value.ref b] below meth c H locs 200 60000 (lw_Z below #[Value.ref b] s) (F0 m 2751 ls []) := by
  obtain ⟨s1, hs1⟩ : ∃ z, z = xs ((0 : Int32) + 1).toNatClampNeg := ⟨_, rfl⟩
  obtain ⟨s2, hs2⟩ : ∃ z, z = xs ((0 : Int32) + 2).toNatClampNeg := ⟨_, rfl⟩
  obtain ⟨s3, hs3⟩ : ∃ z, z = xs ((0 : Int32) + 3).toNatClampNeg := ⟨_, rfl⟩
  obtain ⟨s4, hs4⟩ : ∃ z, z = xs ((0 : Int32) + 4).toNatClampNeg := ⟨_, rfl⟩
  obtain ⟨s5, hs5⟩ : ∃ z, z = xs ((0 : Int32) + 5).toNatClampNeg := ⟨_, rfl⟩
  obtain ⟨s6, hs6⟩ : ∃ z, z = xs ((0 : Int32) + 6).toNatClampNeg := ⟨_, rfl⟩
  obtain ⟨k1, hk1⟩ : ∃ z, z = (s1.toUInt32 % 65536).toInt32 := ⟨_, rfl⟩
  obtain ⟨k2, hk2⟩ : ∃ z, z = (s2.toUInt32 % 65536).toInt32 := ⟨_, rfl⟩
  obtain ⟨k3, hk3⟩ : ∃ z, z = (s3.toUInt32 % 65536).toInt32 := ⟨_, rfl⟩
  obtain ⟨k4, hk4⟩ : ∃ z, z = (s4.toUInt32 % 65536).toInt32 := ⟨_, rfl⟩
  obtain ⟨k5, hk5⟩ : ∃ z, z = (s5.toUInt32 % 65536).toInt32 := ⟨_, rfl⟩
  obtain ⟨k6, hk6⟩ : ∃ z, z = (s6.toUInt32 % 65536).toInt32 := ⟨_, rfl⟩
  refine lv_aload_n hx hb dL_law_2751 rfl (lv_at hl 1 rfl) ?_
  have hPc := hP.sub (ws' := [(ya, .inr (16, [.ref ms, .int 0, .ref ju, .ref li, .ref ct, .ref tg, .ref fw]))]) [0] rfl
  have hDc := hD.sub (ws' := [(ya, .inr (16, [.ref ms, .int 0, .ref ju, .ref li, .ref ct, .ref tg, .ref fw]))]) [0] (by decide) rfl
  have hKc := hK.sub (tys' := []) [] rfl
  have hFc := va_free (wc := [(ya, .inr (16, [.ref ms, .int 0, .ref ju, .ref li, .ref ct, .ref tg, .ref fw]))]) hD hS hA [0] rfl
  refine vx_calll (vx_runV (As := []) (rest := []) ⟨hx, hb, hml, hown, hts⟩ (c_X11_checksum l hfl dC dI ya ms ju li ct tg fw H.size) (cwV 0 hts gL_law_X11_checksum rfl rfl rfl (by decide +kernel) ⟨Nat.le_of_ble_eq_true rfl, Nat.le_of_ble_eq_true rfl⟩) (pcVz (zX_ok) hPc hDc hKc hN hZ.1 hS hFc (ci := 16) (q0 := 0) rfl rfl) rfl rfl hl.1 rfl (lv_room (Nat.le_of_ble_eq_true rfl)) dL_law_2752 ⟨Nat.le_of_ble_eq_true rfl, Nat.le_of_ble_eq_true rfl⟩) hS (fun q _ h => hFc q h) hFc (fun q _ h => hFc q h) (fun E9 ce9 q9 u9 t9 H9 locs9 ht9 hvm9 hp9 hE9 hz9 hk9 hS9 hc9 hv9 hcl9 => hE9.elim) (fun r_1 u t H1 locs ht hvm hw_2 hB hz1 hk1 hS => ?_)
  obtain ⟨hP1, hK1, hD1⟩ := hB
  rw [ht] at hP1
  try dsimp only at hw_2
  obtain ⟨hP, hD⟩ := va_join (wr := [(xm, .inr (20, [.int 0, .int 0, .ref kn, .int 0, .int 0, .int 0, .ref ml, .ref cl, .ref rg, .ref tR, .ref (aK 0), .ref (aK 0), .ref fl, .int 0, .int 0, .int 0, .int 0, .int 0, .int 0, .int 0, .null])), (ml, .inr (4, [.int 0, .ref e0, .int 0]))]) (w1 := []) hP hD [0] [1, 2] rfl rfl (by decide) (by decide) hk1 hFc hP1 hD1
  generalize H1 = H at hP hS ⊢
  have hP : va_P (dC, dI) vwCl [(xm, .inr (20, [.int 0, .int 0, .ref kn, .int 0, .int 0, .int 0, .ref ml, .ref cl, .ref rg, .ref tR, .ref (aK 0), .ref (aK 0), .ref fl, .int 0, .int 0, .int 0, .int 0, .int 0, .int 0, .int 0, .null])), (ml, .inr (4, [.int 0, .ref e0, .int 0]))] H := hP
  have hD : va_D A [(xm, .inr (20, [.int 0, .int 0, .ref kn, .int 0, .int 0, .int 0, .ref ml, .ref cl, .ref rg, .ref tR, .ref (aK 0), .ref (aK 0), .ref fl, .int 0, .int 0, .int 0, .int 0, .int 0, .int 0, .int 0, .null])), (ml, .inr (4, [.int 0, .ref e0, .int 0]))] := hD
  obtain rfl : r_1 = 7 := hw_2
  refine lv_aload_n hx hb dL_law_2755 rfl (lv_at hl 2 rfl) ?_
  have hPc := hP.sub (ws' := [(xm, .inr (20, [.int 0, .int 0, .ref kn, .int 0, .int 0, .int 0, .ref ml, .ref cl, .ref rg, .ref tR, .ref (aK 0), .ref (aK 0), .ref fl, .int 0, .int 0, .int 0, .int 0, .int 0, .int 0, .int 0, .null])), (ml, .inr (4, [.int 0, .ref e0, .int 0]))]) [0, 1] rfl
  have hDc := hD.sub (ws' := [(xm, .inr (20, [.int 0, .int 0, .ref kn, .int 0, .int 0, .int 0, .ref ml, .ref cl, .ref rg, .ref tR, .ref (aK 0), .ref (aK 0), .ref fl, .int 0, .int 0, .int 0, .int 0, .int 0, .int 0, .int 0, .null])), (ml, .inr (4, [.int 0, .ref e0, .int 0]))]) [0, 1] (by decide) rfl
  have hKc := hK.sub (tys' := []) [] rfl
  have hFc := va_free (wc := [(xm, .inr (20, [.int 0, .int 0, .ref kn, .int 0, .int 0, .int 0, .ref ml, .ref cl, .ref rg, .ref tR, .ref (aK 0), .ref (aK 0), .ref fl, .int 0, .int 0, .int 0, .int 0, .int 0, .int 0, .int 0, .null])), (ml, .inr (4, [.int 0, .ref e0, .int 0]))]) hD hS hA [0, 1] rfl
  refine va_calll (va_runV (As := []) (rest := [.long 7]) ⟨hx, hb, hml, hown, hts⟩ (c_X15_checksum l dC dI xm ml cl fl kn rg tR e0 aK aV H.size) (cwV 0 hts gL_law_X15_checksum rfl rfl rfl (by decide +kernel) ⟨Nat.le_of_ble_eq_true rfl, Nat.le_of_ble_eq_true rfl⟩) (pcVz (zM_ok e0 aK aV) hPc hDc hKc hN hZ.2 hS hFc (ci := 20) (q0 := 0) rfl rfl) rfl rfl hl.1 rfl (lv_room (Nat.le_of_ble_eq_true rfl)) dL_law_2756 ⟨Nat.le_of_ble_eq_true rfl, Nat.le_of_ble_eq_true rfl⟩) hS (fun q _ h => hFc q h) hFc (fun r_4 u t H1 locs ht hvm hw_5 hB hz1 hk1 hS => ?_)
  obtain fs_3 := u
  obtain ⟨hP1, hK1, hD1⟩ := hB
  rw [ht] at hP1
  try dsimp only at hw_5
  obtain ⟨hP, hD⟩ := va_join (wr := []) (w1 := [(xm, .inr (20, fs_3))]) hP hD [0, 1] [] rfl rfl (by decide) (by decide) hk1 hFc hP1 hD1
  generalize H1 = H at hP hS ⊢
  have hP : va_P (dC, dI) vwCl [(xm, .inr (20, fs_3))] H := hP
  have hD : va_D A [(xm, .inr (20, fs_3))] := hD
  refine W.widen (k := 201) (n := 60004) (Nat.le_of_ble_eq_true rfl) (Nat.le_of_ble_eq_true rfl) ?_
  obtain rfl : r_4 = 7 := hw_5.2
  refine W.lcmp hx hb dL_law_2759 ?_
  refine lv_if_eq (tgt := 2778) hx hb dL_law_2760 (by decide) (fun c2760_6 => ?_) (fun c2760_6 => ?_)
  · refine W.widen (k := 600006) (n := 7302039) (Nat.le_of_ble_eq_true rfl) (Nat.le_of_ble_eq_true rfl) ?_
    exact law_end hx hb hr hml hX hbl hlocks hbA hAo hS (lv_sub hl [0, 5] rfl)
  · exact absurd ((lg_cmp_eq _ _).mpr rfl) c2760_6

set_option maxHeartbeats 8000000 in
set_option maxRecDepth 100000 in
/-- the law: law_42_isSound -/
theorem law_42_isSound {p : Program} {e : Env} {s : State} {m : MethodId} {below : List Frame} {meth : Method} {c : Code} {l : Launch} {b : Nat} {xs : Nat → Int32} (hx : p.tables.exec = Jvm.exec) (hb : c.code = cL_law) (hr : meth.sig.returnType = ret) (hml : c.maxLocals = 9) (hfl : l.stackTraces = false) (hown : s.vm.findClass RL = some m.cls) (hts : ∀ w ∈ wsL_law, w.before #[Value.ref b] s = true) (hX : va_X b 7 xs s s.heap) (hbl : b < s.heap.size) (hlocks : meth.locks = false) {A : Nat → Prop} (hbA : ¬ A b) (hAo : ∀ q, A q → s.heap.size ≤ q) (hA : ∀ q : Nat, s.heap.size ≤ q → A q) (dC : Nat → ClassId) (dI : Nat → Nat → Nat) (hN : nwA s) (e0 : Nat) (aK aV : Nat → Nat) (hZ : zX A s s.heap ∧ zM e0 aK aV A s s.heap) (ya ms ju rj tj ro rn tn rh th ca sa da xa wb z1 z2 jt z3 br z4 z5 z6 lk z7 z8 li bm l2 z9 bo h2 mm l1 z10 oo h1 ct cr cu cg cp co tg ts tr tk te fw fo fu xm ml cl fl rg tR ou od kn : Nat) (cI cM cS cL cD cB : ClassId) {H : Heap} {locs : List Loc} (hP : va_P (dC, dI) vwCl [(ya, .inr (16, [.ref ms, .int 0, .ref ju, .ref li, .ref ct, .ref tg, .ref fw])), (xm, .inr (20, [.int 0, .int 0, .ref kn, .int 0, .int 0, .int 0, .ref ml, .ref cl, .ref rg, .ref tR, .ref (aK 0), .ref (aK 0), .ref fl, .int 0, .int 0, .int 0, .int 0, .int 0, .int 0, .int 0, .null]))] H) (hD : va_D A [(ya, .inr (16, [.ref ms, .int 0, .ref ju, .ref li, .ref ct, .ref tg, .ref fw])), (xm, .inr (20, [.int 0, .int 0, .ref kn, .int 0, .int 0, .int 0, .ref ml, .ref cl, .ref rg, .ref tR, .ref (aK 0), .ref (aK 0), .ref fl, .int 0, .int 0, .int 0, .int 0, .int 0, .int 0, .int 0, .null]))]) (hK : va_K (dC, dI) vwCl [] s) (hS : va_S A s.heap H locs) {ls : Array Slot} (hl : lv_has ls 9 [(0, .ref b), (1, .ref ya), (2, .ref xm), (3, .ref ou), (4, .ref od), (5, .int 0)]) : W p l e room_1 s m #[Value.ref b] below meth c H locs 200 60000 (lw_Z below #[Value.ref b] s) (F0 m 2765 ls []) := by
  obtain ⟨s1, hs1⟩ : ∃ z, z = xs ((0 : Int32) + 1).toNatClampNeg := ⟨_, rfl⟩
  obtain ⟨s2, hs2⟩ : ∃ z, z = xs ((0 : Int32) + 2).toNatClampNeg := ⟨_, rfl⟩
  obtain ⟨s3, hs3⟩ : ∃ z, z = xs ((0 : Int32) + 3).toNatClampNeg := ⟨_, rfl⟩
  obtain ⟨s4, hs4⟩ : ∃ z, z = xs ((0 : Int32) + 4).toNatClampNeg := ⟨_, rfl⟩
  obtain ⟨s5, hs5⟩ : ∃ z, z = xs ((0 : Int32) + 5).toNatClampNeg := ⟨_, rfl⟩
  obtain ⟨s6, hs6⟩ : ∃ z, z = xs ((0 : Int32) + 6).toNatClampNeg := ⟨_, rfl⟩
  obtain ⟨k1, hk1⟩ : ∃ z, z = (s1.toUInt32 % 65536).toInt32 := ⟨_, rfl⟩
  obtain ⟨k2, hk2⟩ : ∃ z, z = (s2.toUInt32 % 65536).toInt32 := ⟨_, rfl⟩
  obtain ⟨k3, hk3⟩ : ∃ z, z = (s3.toUInt32 % 65536).toInt32 := ⟨_, rfl⟩
  obtain ⟨k4, hk4⟩ : ∃ z, z = (s4.toUInt32 % 65536).toInt32 := ⟨_, rfl⟩
  obtain ⟨k5, hk5⟩ : ∃ z, z = (s5.toUInt32 % 65536).toInt32 := ⟨_, rfl⟩
  obtain ⟨k6, hk6⟩ : ∃ z, z = (s6.toUInt32 % 65536).toInt32 := ⟨_, rfl⟩
  refine lv_aload_n hx hb dL_law_2765 rfl (lv_at hl 1 rfl) ?_
  have hPc := hP.sub (ws' := [(ya, .inr (16, [.ref ms, .int 0, .ref ju, .ref li, .ref ct, .ref tg, .ref fw]))]) [0] rfl
  have hDc := hD.sub (ws' := [(ya, .inr (16, [.ref ms, .int 0, .ref ju, .ref li, .ref ct, .ref tg, .ref fw]))]) [0] (by decide) rfl
  have hKc := hK.sub (tys' := []) [] rfl
  have hFc := va_free (wc := [(ya, .inr (16, [.ref ms, .int 0, .ref ju, .ref li, .ref ct, .ref tg, .ref fw]))]) hD hS hA [0] rfl
  refine vx_calli (vx_runV (As := []) (rest := []) ⟨hx, hb, hml, hown, hts⟩ (c_X11_isSound l hfl dC dI ya ms ju li ct tg fw H.size) (cwV 0 hts gL_law_X11_isSound rfl rfl rfl (by decide +kernel) ⟨Nat.le_of_ble_eq_true rfl, Nat.le_of_ble_eq_true rfl⟩) (pcVz (zX_ok) hPc hDc hKc hN hZ.1 hS hFc (ci := 16) (q0 := 0) rfl rfl) rfl rfl hl.1 rfl (lv_room (Nat.le_of_ble_eq_true rfl)) dL_law_2766 ⟨Nat.le_of_ble_eq_true rfl, Nat.le_of_ble_eq_true rfl⟩) hS (fun q _ h => hFc q h) hFc (fun q _ h => hFc q h) (fun E9 ce9 q9 u9 t9 H9 locs9 ht9 hvm9 hp9 hE9 hz9 hk9 hS9 hc9 hv9 hcl9 => hE9.elim) (fun r_1 u t H1 locs ht hvm hw_2 hB hz1 hk1 hS => ?_)
  obtain ⟨hP1, hK1, hD1⟩ := hB
  rw [ht] at hP1
  try dsimp only at hw_2
  obtain ⟨hP, hD⟩ := va_join (wr := [(xm, .inr (20, [.int 0, .int 0, .ref kn, .int 0, .int 0, .int 0, .ref ml, .ref cl, .ref rg, .ref tR, .ref (aK 0), .ref (aK 0), .ref fl, .int 0, .int 0, .int 0, .int 0, .int 0, .int 0, .int 0, .null]))]) (w1 := []) hP hD [0] [1] rfl rfl (by decide) (by decide) hk1 hFc hP1 hD1
  generalize H1 = H at hP hS ⊢
  have hP : va_P (dC, dI) vwCl [(xm, .inr (20, [.int 0, .int 0, .ref kn, .int 0, .int 0, .int 0, .ref ml, .ref cl, .ref rg, .ref tR, .ref (aK 0), .ref (aK 0), .ref fl, .int 0, .int 0, .int 0, .int 0, .int 0, .int 0, .int 0, .null]))] H := hP
  have hD : va_D A [(xm, .inr (20, [.int 0, .int 0, .ref kn, .int 0, .int 0, .int 0, .ref ml, .ref cl, .ref rg, .ref tR, .ref (aK 0), .ref (aK 0), .ref fl, .int 0, .int 0, .int 0, .int 0, .int 0, .int 0, .int 0, .null]))] := hD
  obtain rfl : r_1 = 1 := hw_2
  refine lv_aload_n hx hb dL_law_2769 rfl (lv_at hl 2 rfl) ?_
  have hPc := hP.sub (ws' := [(xm, .inr (20, [.int 0, .int 0, .ref kn, .int 0, .int 0, .int 0, .ref ml, .ref cl, .ref rg, .ref tR, .ref (aK 0), .ref (aK 0), .ref fl, .int 0, .int 0, .int 0, .int 0, .int 0, .int 0, .int 0, .null]))]) [0] rfl
  have hDc := hD.sub (ws' := [(xm, .inr (20, [.int 0, .int 0, .ref kn, .int 0, .int 0, .int 0, .ref ml, .ref cl, .ref rg, .ref tR, .ref (aK 0), .ref (aK 0), .ref fl, .int 0, .int 0, .int 0, .int 0, .int 0, .int 0, .int 0, .null]))]) [0] (by decide) rfl
  have hKc := hK.sub (tys' := []) [] rfl
  have hFc := va_free (wc := [(xm, .inr (20, [.int 0, .int 0, .ref kn, .int 0, .int 0, .int 0, .ref ml, .ref cl, .ref rg, .ref tR, .ref (aK 0), .ref (aK 0), .ref fl, .int 0, .int 0, .int 0, .int 0, .int 0, .int 0, .int 0, .null]))]) hD hS hA [0] rfl
  refine va_calli (va_runV (As := []) (rest := [.int 1]) ⟨hx, hb, hml, hown, hts⟩ (c_X15_isSound l dC dI xm ml cl fl kn rg tR e0 aK aV H.size) (cwV 0 hts gL_law_X15_isSound rfl rfl rfl (by decide +kernel) ⟨Nat.le_of_ble_eq_true rfl, Nat.le_of_ble_eq_true rfl⟩) (pcV hPc hDc hKc hN (ci := 20) (q0 := 0) rfl rfl) rfl rfl hl.1 rfl (lv_room (Nat.le_of_ble_eq_true rfl)) dL_law_2770 ⟨Nat.le_of_ble_eq_true rfl, Nat.le_of_ble_eq_true rfl⟩) hS (fun q _ h => hFc q h) hFc (fun r_4 u t H1 locs ht hvm hw_5 hB hz1 hk1 hS => ?_)
  obtain fs_3 := u
  obtain ⟨hP1, hK1, hD1⟩ := hB
  rw [ht] at hP1
  try dsimp only at hw_5
  obtain ⟨hP, hD⟩ := va_join (wr := []) (w1 := [(xm, .inr (20, fs_3))]) hP hD [0] [] rfl rfl (by decide) (by decide) hk1 hFc hP1 hD1
  generalize H1 = H at hP hS ⊢
  have hP : va_P (dC, dI) vwCl [(xm, .inr (20, fs_3))] H := hP
  have hD : va_D A [(xm, .inr (20, fs_3))] := hD
  obtain rfl : r_4 = 1 := hw_5.2
  refine lv_icmp_eq (tgt := 2778) hx hb dL_law_2773 (by decide) (fun c2773_6 => ?_) (fun c2773_6 => ?_)
  · refine W.widen (k := 600006) (n := 7302039) (Nat.le_of_ble_eq_true rfl) (Nat.le_of_ble_eq_true rfl) ?_
    exact law_end hx hb hr hml hX hbl hlocks hbA hAo hS (lv_sub hl [0, 5] rfl)
  · exact (c2773_6 (by decide)).elim
