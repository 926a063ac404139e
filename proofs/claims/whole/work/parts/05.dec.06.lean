/-! decode rows -/
theorem xj_A_law_268 : decode xb_A_law 268 = .ok (.iload 6, 2) := by decide +kernel
theorem xj_A_law_270 : decode xb_A_law 270 = .ok (.i2l, 1) := by decide +kernel
theorem xj_A_law_271 : decode xb_A_law 271 = .ok (.lcmp, 1) := by decide +kernel
theorem xj_A_law_272 : decode xb_A_law 272 = .ok (.ifCond .eq 5, 3) := by decide +kernel
theorem xj_A_law_275 : decode xb_A_law 275 = .ok (.iconst 0, 1) := by decide +kernel
theorem xj_A_law_276 : decode xb_A_law 276 = .ok (.ireturn, 1) := by decide +kernel
theorem xj_A_law_277 : decode xb_A_law 277 = .ok (.goto 771, 3) := by decide +kernel
theorem xj_A_law_280 : decode xb_A_law 280 = .ok (.aload_n 1, 1) := by decide +kernel
theorem xj_A_law_281 : decode xb_A_law 281 = .ok (.aload_n 0, 1) := by decide +kernel
theorem xj_A_law_282 : decode xb_A_law 282 = .ok (.iload 4, 2) := by decide +kernel
theorem xj_A_law_284 : decode xb_A_law 284 = .ok (.iconst 1, 1) := by decide +kernel
theorem xj_A_law_285 : decode xb_A_law 285 = .ok (.iadd, 1) := by decide +kernel
theorem xj_A_law_286 : decode xb_A_law 286 = .ok (.iaload, 1) := by decide +kernel
theorem xj_A_law_287 : decode xb_A_law 287 = .ok (.aload_n 0, 1) := by decide +kernel
theorem xj_A_law_288 : decode xb_A_law 288 = .ok (.iload 4, 2) := by decide +kernel
theorem xj_A_law_290 : decode xb_A_law 290 = .ok (.iconst 2, 1) := by decide +kernel
theorem xj_A_law_291 : decode xb_A_law 291 = .ok (.iadd, 1) := by decide +kernel
theorem xj_A_law_292 : decode xb_A_law 292 = .ok (.iaload, 1) := by decide +kernel
theorem xj_A_law_293 : decode xb_A_law 293 = .ok (.aload_n 0, 1) := by decide +kernel
theorem xj_A_law_294 : decode xb_A_law 294 = .ok (.iload 4, 2) := by decide +kernel
theorem xj_A_law_296 : decode xb_A_law 296 = .ok (.iconst 3, 1) := by decide +kernel
theorem xj_A_law_297 : decode xb_A_law 297 = .ok (.iadd, 1) := by decide +kernel
theorem xj_A_law_298 : decode xb_A_law 298 = .ok (.iaload, 1) := by decide +kernel
theorem xj_A_law_299 : decode xb_A_law 299 = .ok (.aload_n 3, 1) := by decide +kernel
theorem xj_A_law_300 : decode xb_A_law 300 = .ok (.invokestatic 89, 3) := by decide +kernel
theorem xj_A_law_303 : decode xb_A_law 303 = .ok (.istore 5, 2) := by decide +kernel
theorem xj_A_law_305 : decode xb_A_law 305 = .ok (.aload_n 2, 1) := by decide +kernel
theorem xj_A_law_306 : decode xb_A_law 306 = .ok (.aload_n 0, 1) := by decide +kernel
theorem xj_A_law_307 : decode xb_A_law 307 = .ok (.iload 4, 2) := by decide +kernel
theorem xj_A_law_309 : decode xb_A_law 309 = .ok (.iconst 1, 1) := by decide +kernel
theorem xj_A_law_310 : decode xb_A_law 310 = .ok (.iadd, 1) := by decide +kernel
theorem xj_A_law_311 : decode xb_A_law 311 = .ok (.iaload, 1) := by decide +kernel
theorem xj_A_law_312 : decode xb_A_law 312 = .ok (.aload_n 0, 1) := by decide +kernel
theorem xj_A_law_313 : decode xb_A_law 313 = .ok (.iload 4, 2) := by decide +kernel
theorem xj_A_law_315 : decode xb_A_law 315 = .ok (.iconst 2, 1) := by decide +kernel
theorem xj_A_law_316 : decode xb_A_law 316 = .ok (.iadd, 1) := by decide +kernel
theorem xj_A_law_317 : decode xb_A_law 317 = .ok (.iaload, 1) := by decide +kernel
theorem xj_A_law_318 : decode xb_A_law 318 = .ok (.aload_n 0, 1) := by decide +kernel
theorem xj_A_law_319 : decode xb_A_law 319 = .ok (.iload 4, 2) := by decide +kernel
theorem xj_A_law_321 : decode xb_A_law 321 = .ok (.iconst 3, 1) := by decide +kernel
theorem xj_A_law_322 : decode xb_A_law 322 = .ok (.iadd, 1) := by decide +kernel
theorem xj_A_law_323 : decode xb_A_law 323 = .ok (.iaload, 1) := by decide +kernel
theorem xj_A_law_324 : decode xb_A_law 324 = .ok (.invokevirtual 91, 3) := by decide +kernel
theorem xj_A_law_327 : decode xb_A_law 327 = .ok (.istore 6, 2) := by decide +kernel
theorem xj_A_law_329 : decode xb_A_law 329 = .ok (.aload_n 2, 1) := by decide +kernel
theorem xj_A_law_330 : decode xb_A_law 330 = .ok (.invokevirtual 78, 3) := by decide +kernel
theorem xj_A_law_333 : decode xb_A_law 333 = .ok (.iload 5, 2) := by decide +kernel
theorem xj_A_law_335 : decode xb_A_law 335 = .ok (.if_icmp .eq 5, 3) := by decide +kernel
theorem xj_A_law_338 : decode xb_A_law 338 = .ok (.iconst 0, 1) := by decide +kernel
theorem xj_A_law_339 : decode xb_A_law 339 = .ok (.ireturn, 1) := by decide +kernel
theorem xj_A_law_340 : decode xb_A_law 340 = .ok (.iload 5, 2) := by decide +kernel
theorem xj_A_law_342 : decode xb_A_law 342 = .ok (.ifCond .ne 15, 3) := by decide +kernel
theorem xj_A_law_345 : decode xb_A_law 345 = .ok (.aload_n 3, 1) := by decide +kernel
theorem xj_A_law_346 : decode xb_A_law 346 = .ok (.iconst 0, 1) := by decide +kernel
theorem xj_A_law_347 : decode xb_A_law 347 = .ok (.laload, 1) := by decide +kernel
theorem xj_A_law_348 : decode xb_A_law 348 = .ok (.iload 6, 2) := by decide +kernel
theorem xj_A_law_350 : decode xb_A_law 350 = .ok (.i2l, 1) := by decide +kernel
theorem xj_A_law_351 : decode xb_A_law 351 = .ok (.lcmp, 1) := by decide +kernel
theorem xj_A_law_352 : decode xb_A_law 352 = .ok (.ifCond .eq 5, 3) := by decide +kernel
theorem xj_A_law_355 : decode xb_A_law 355 = .ok (.iconst 0, 1) := by decide +kernel
