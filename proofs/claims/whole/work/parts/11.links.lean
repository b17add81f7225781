/-! LINKS: words of the tables, by their places -/
theorem ct_0 : ∀ wd ∈ u_ws RX1 TX1 4, wd ∈ lw_ok := by
  intro wd hw
  obtain ⟨k, hk, rfl⟩ := List.mem_map.mp hw
  have hk := List.mem_range.mp hk
  match k, hk with
  | 0, _ => exact (lw_okof 378 qw_378 rfl)
  | 1, _ => exact (lw_okof 380 qw_380 rfl)
  | 2, _ => exact (lw_okof 382 qw_382 rfl)
  | 3, _ => exact (lw_okof 384 qw_384 rfl)
  | k + 4, h => exact absurd h (by omega)
theorem cl_0 : dnCl 0 RX1 TX1 4 tyX1 := ⟨by decide, rfl, ct_0, tyX1_ok, nmX1, rfl, by decide +kernel⟩
theorem ki_0 : Cond.instantiable RX1 4 ∈ lw_ok := (lw_okof 369 qw_369 rfl)
theorem kn_0 : Cond.initialized RX1 ∈ lw_ok := (lw_okof 115 qw_115 rfl)
theorem ct_1 : ∀ wd ∈ u_ws RX2 TX2 3, wd ∈ lw_ok := by
  intro wd hw
  obtain ⟨k, hk, rfl⟩ := List.mem_map.mp hw
  have hk := List.mem_range.mp hk
  match k, hk with
  | 0, _ => exact (lw_okof 226 qw_226 rfl)
  | 1, _ => exact (lw_okof 228 qw_228 rfl)
  | 2, _ => exact (lw_okof 230 qw_230 rfl)
  | k + 3, h => exact absurd h (by omega)
theorem cl_1 : dnCl 1 RX2 TX2 3 tyX2 := ⟨by decide, rfl, ct_1, tyX2_ok, nmX2, rfl, by decide +kernel⟩
theorem ki_1 : Cond.instantiable RX2 3 ∈ lw_ok := (lw_okof 206 qw_206 rfl)
theorem kn_1 : Cond.initialized RX2 ∈ lw_ok := (lw_okof 108 qw_108 rfl)
theorem ct_2 : ∀ wd ∈ u_ws RX3 TX3 4, wd ∈ lw_ok := by
  intro wd hw
  obtain ⟨k, hk, rfl⟩ := List.mem_map.mp hw
  have hk := List.mem_range.mp hk
  match k, hk with
  | 0, _ => exact (lw_okof 358 qw_358 rfl)
  | 1, _ => exact (lw_okof 360 qw_360 rfl)
  | 2, _ => exact (lw_okof 362 qw_362 rfl)
  | 3, _ => exact (lw_okof 364 qw_364 rfl)
  | k + 4, h => exact absurd h (by omega)
theorem cl_2 : dnCl 2 RX3 TX3 4 tyX3 := ⟨by decide, rfl, ct_2, tyX3_ok, nmX3, rfl, by decide +kernel⟩
theorem ki_2 : Cond.instantiable RX3 4 ∈ lw_ok := (lw_okof 348 qw_348 rfl)
theorem kn_2 : Cond.initialized RX3 ∈ lw_ok := (lw_okof 114 qw_114 rfl)
theorem ct_3 : ∀ wd ∈ u_ws RX4 TX4 6, wd ∈ lw_ok := by
  intro wd hw
  obtain ⟨k, hk, rfl⟩ := List.mem_map.mp hw
  have hk := List.mem_range.mp hk
  match k, hk with
  | 0, _ => exact (lw_okof 334 qw_334 rfl)
  | 1, _ => exact (lw_okof 336 qw_336 rfl)
  | 2, _ => exact (lw_okof 338 qw_338 rfl)
  | 3, _ => exact (lw_okof 340 qw_340 rfl)
  | 4, _ => exact (lw_okof 342 qw_342 rfl)
  | 5, _ => exact (lw_okof 344 qw_344 rfl)
  | k + 6, h => exact absurd h (by omega)
theorem cl_3 : dnCl 3 RX4 TX4 6 tyX4 := ⟨by decide, rfl, ct_3, tyX4_ok, nmX4, rfl, by decide +kernel⟩
theorem ki_3 : Cond.instantiable RX4 6 ∈ lw_ok := (lw_okof 321 qw_321 rfl)
theorem kn_3 : Cond.initialized RX4 ∈ lw_ok := (lw_okof 113 qw_113 rfl)
theorem ct_4 : ∀ wd ∈ u_ws RX5 TX5 6, wd ∈ lw_ok := by
  intro wd hw
  obtain ⟨k, hk, rfl⟩ := List.mem_map.mp hw
  have hk := List.mem_range.mp hk
  match k, hk with
  | 0, _ => exact (lw_okof 174 qw_174 rfl)
  | 1, _ => exact (lw_okof 176 qw_176 rfl)
  | 2, _ => exact (lw_okof 178 qw_178 rfl)
  | 3, _ => exact (lw_okof 180 qw_180 rfl)
  | 4, _ => exact (lw_okof 182 qw_182 rfl)
  | 5, _ => exact (lw_okof 184 qw_184 rfl)
  | k + 6, h => exact absurd h (by omega)
theorem cl_4 : dnCl 4 RX5 TX5 6 tyX5 := ⟨by decide, rfl, ct_4, tyX5_ok, nmX5, rfl, by decide +kernel⟩
theorem ki_4 : Cond.instantiable RX5 6 ∈ lw_ok := (lw_okof 144 qw_144 rfl)
theorem kn_4 : Cond.initialized RX5 ∈ lw_ok := (lw_okof 107 qw_107 rfl)
theorem ct_5 : ∀ wd ∈ u_ws RX6 TX6 4, wd ∈ lw_ok := by
  intro wd hw
  obtain ⟨k, hk, rfl⟩ := List.mem_map.mp hw
  have hk := List.mem_range.mp hk
  match k, hk with
  | 0, _ => exact (lw_okof 245 qw_245 rfl)
  | 1, _ => exact (lw_okof 247 qw_247 rfl)
  | 2, _ => exact (lw_okof 249 qw_249 rfl)
  | 3, _ => exact (lw_okof 251 qw_251 rfl)
  | k + 4, h => exact absurd h (by omega)
theorem cl_5 : dnCl 5 RX6 TX6 4 tyX6 := ⟨by decide, rfl, ct_5, tyX6_ok, nmX6, rfl, by decide +kernel⟩
theorem ki_5 : Cond.instantiable RX6 4 ∈ lw_ok := (lw_okof 234 qw_234 rfl)
theorem kn_5 : Cond.initialized RX6 ∈ lw_ok := (lw_okof 109 qw_109 rfl)
theorem ct_6 : ∀ wd ∈ u_ws RX7 TX7 7, wd ∈ lw_ok := by
  intro wd hw
  obtain ⟨k, hk, rfl⟩ := List.mem_map.mp hw
  have hk := List.mem_range.mp hk
  match k, hk with
  | 0, _ => exact (lw_okof 305 qw_305 rfl)
  | 1, _ => exact (lw_okof 307 qw_307 rfl)
  | 2, _ => exact (lw_okof 309 qw_309 rfl)
  | 3, _ => exact (lw_okof 311 qw_311 rfl)
  | 4, _ => exact (lw_okof 313 qw_313 rfl)
  | 5, _ => exact (lw_okof 315 qw_315 rfl)
  | 6, _ => exact (lw_okof 317 qw_317 rfl)
  | k + 7, h => exact absurd h (by omega)
theorem cl_6 : dnCl 6 RX7 TX7 7 tyX7 := ⟨by decide, rfl, ct_6, tyX7_ok, nmX7, rfl, by decide +kernel⟩
theorem ki_6 : Cond.instantiable RX7 7 ∈ lw_ok := (lw_okof 293 qw_293 rfl)
theorem kn_6 : Cond.initialized RX7 ∈ lw_ok := (lw_okof 112 qw_112 rfl)
theorem ct_7 : ∀ wd ∈ u_ws RX9 TX9 3, wd ∈ lw_ok := by
  intro wd hw
  obtain ⟨k, hk, rfl⟩ := List.mem_map.mp hw
  have hk := List.mem_range.mp hk
  match k, hk with
  | 0, _ => exact (lw_okof 197 qw_197 rfl)
  | 1, _ => exact (lw_okof 199 qw_199 rfl)
  | 2, _ => exact (lw_okof 201 qw_201 rfl)
  | k + 3, h => exact absurd h (by omega)
theorem cl_7 : dnCl 7 RX9 TX9 3 tyX9 := ⟨by decide, rfl, ct_7, tyX9_ok, nmX9, rfl, by decide +kernel⟩
theorem ki_7 : Cond.instantiable RX9 3 ∈ lw_ok := (lw_okof 134 qw_134 rfl)
theorem kn_7 : Cond.initialized RX9 ∈ lw_ok := (lw_okof 105 qw_105 rfl)
theorem ct_8 : ∀ wd ∈ u_ws RX10 TX10 6, wd ∈ lw_ok := by
  intro wd hw
  obtain ⟨k, hk, rfl⟩ := List.mem_map.mp hw
  have hk := List.mem_range.mp hk
  match k, hk with
  | 0, _ => exact (lw_okof 279 qw_279 rfl)
  | 1, _ => exact (lw_okof 281 qw_281 rfl)
  | 2, _ => exact (lw_okof 283 qw_283 rfl)
  | 3, _ => exact (lw_okof 285 qw_285 rfl)
  | 4, _ => exact (lw_okof 287 qw_287 rfl)
  | 5, _ => exact (lw_okof 289 qw_289 rfl)
  | k + 6, h => exact absurd h (by omega)
theorem cl_8 : dnCl 8 RX10 TX10 6 tyX10 := ⟨by decide, rfl, ct_8, tyX10_ok, nmX10, rfl, by decide +kernel⟩
theorem ki_8 : Cond.instantiable RX10 6 ∈ lw_ok := (lw_okof 268 qw_268 rfl)
theorem kn_8 : Cond.initialized RX10 ∈ lw_ok := (lw_okof 111 qw_111 rfl)
theorem ct_9 : ∀ wd ∈ u_ws RX11 TX11 2, wd ∈ lw_ok := by
  intro wd hw
  obtain ⟨k, hk, rfl⟩ := List.mem_map.mp hw
  have hk := List.mem_range.mp hk
  match k, hk with
  | 0, _ => exact (lw_okof 262 qw_262 rfl)
  | 1, _ => exact (lw_okof 264 qw_264 rfl)
  | k + 2, h => exact absurd h (by omega)
theorem cl_9 : dnCl 9 RX11 TX11 2 tyX11 := ⟨by decide, rfl, ct_9, tyX11_ok, nmX11, rfl, by decide +kernel⟩
theorem ki_9 : Cond.instantiable RX11 2 ∈ lw_ok := (lw_okof 255 qw_255 rfl)
theorem kn_9 : Cond.initialized RX11 ∈ lw_ok := (lw_okof 110 qw_110 rfl)
theorem ct_10 : ∀ wd ∈ u_ws RX12 TX12 12, wd ∈ lw_ok := by
  intro wd hw
  obtain ⟨k, hk, rfl⟩ := List.mem_map.mp hw
  have hk := List.mem_range.mp hk
  match k, hk with
  | 0, _ => exact (lw_okof 399 qw_399 rfl)
  | 1, _ => exact (lw_okof 401 qw_401 rfl)
  | 2, _ => exact (lw_okof 403 qw_403 rfl)
  | 3, _ => exact (lw_okof 405 qw_405 rfl)
  | 4, _ => exact (lw_okof 407 qw_407 rfl)
  | 5, _ => exact (lw_okof 409 qw_409 rfl)
  | 6, _ => exact (lw_okof 411 qw_411 rfl)
  | 7, _ => exact (lw_okof 413 qw_413 rfl)
  | 8, _ => exact (lw_okof 415 qw_415 rfl)
  | 9, _ => exact (lw_okof 417 qw_417 rfl)
  | 10, _ => exact (lw_okof 419 qw_419 rfl)
  | 11, _ => exact (lw_okof 421 qw_421 rfl)
  | k + 12, h => exact absurd h (by omega)
theorem cl_10 : dnCl 10 RX12 TX12 12 tyX12 := ⟨by decide, rfl, ct_10, tyX12_ok, nmX12, rfl, by decide +kernel⟩
theorem ki_10 : Cond.instantiable RX12 12 ∈ lw_ok := (lw_okof 126 qw_126 rfl)
theorem kn_10 : Cond.initialized RX12 ∈ lw_ok := (lw_okof 104 qw_104 rfl)
theorem ct_11 : ∀ wd ∈ u_ws RX13 TX13 46, wd ∈ lw_ok := by
  intro wd hw
  obtain ⟨k, hk, rfl⟩ := List.mem_map.mp hw
  have hk := List.mem_range.mp hk
  match k, hk with
  | 0, _ => exact (lw_okof 1350 qw_1350 rfl)
  | 1, _ => exact (lw_okof 1352 qw_1352 rfl)
  | 2, _ => exact (lw_okof 1354 qw_1354 rfl)
  | 3, _ => exact (lw_okof 1356 qw_1356 rfl)
  | 4, _ => exact (lw_okof 1358 qw_1358 rfl)
  | 5, _ => exact (lw_okof 1360 qw_1360 rfl)
  | 6, _ => exact (lw_okof 1362 qw_1362 rfl)
  | 7, _ => exact (lw_okof 1364 qw_1364 rfl)
  | 8, _ => exact (lw_okof 1366 qw_1366 rfl)
  | 9, _ => exact (lw_okof 1368 qw_1368 rfl)
  | 10, _ => exact (lw_okof 1370 qw_1370 rfl)
  | 11, _ => exact (lw_okof 1372 qw_1372 rfl)
  | 12, _ => exact (lw_okof 1374 qw_1374 rfl)
  | 13, _ => exact (lw_okof 1376 qw_1376 rfl)
  | 14, _ => exact (lw_okof 1378 qw_1378 rfl)
  | 15, _ => exact (lw_okof 1380 qw_1380 rfl)
  | 16, _ => exact (lw_okof 1382 qw_1382 rfl)
  | 17, _ => exact (lw_okof 1384 qw_1384 rfl)
  | 18, _ => exact (lw_okof 1386 qw_1386 rfl)
  | 19, _ => exact (lw_okof 1388 qw_1388 rfl)
  | 20, _ => exact (lw_okof 1390 qw_1390 rfl)
  | 21, _ => exact (lw_okof 1392 qw_1392 rfl)
  | 22, _ => exact (lw_okof 1394 qw_1394 rfl)
  | 23, _ => exact (lw_okof 1396 qw_1396 rfl)
  | 24, _ => exact (lw_okof 1398 qw_1398 rfl)
  | 25, _ => exact (lw_okof 1400 qw_1400 rfl)
  | 26, _ => exact (lw_okof 1402 qw_1402 rfl)
  | 27, _ => exact (lw_okof 1404 qw_1404 rfl)
  | 28, _ => exact (lw_okof 1406 qw_1406 rfl)
  | 29, _ => exact (lw_okof 1408 qw_1408 rfl)
  | 30, _ => exact (lw_okof 1410 qw_1410 rfl)
  | 31, _ => exact (lw_okof 1412 qw_1412 rfl)
  | 32, _ => exact (lw_okof 1414 qw_1414 rfl)
  | 33, _ => exact (lw_okof 1416 qw_1416 rfl)
  | 34, _ => exact (lw_okof 1418 qw_1418 rfl)
  | 35, _ => exact (lw_okof 1420 qw_1420 rfl)
  | 36, _ => exact (lw_okof 1422 qw_1422 rfl)
  | 37, _ => exact (lw_okof 1424 qw_1424 rfl)
  | 38, _ => exact (lw_okof 1426 qw_1426 rfl)
  | 39, _ => exact (lw_okof 1428 qw_1428 rfl)
  | 40, _ => exact (lw_okof 1430 qw_1430 rfl)
  | 41, _ => exact (lw_okof 1432 qw_1432 rfl)
  | 42, _ => exact (lw_okof 1434 qw_1434 rfl)
  | 43, _ => exact (lw_okof 1436 qw_1436 rfl)
  | 44, _ => exact (lw_okof 1438 qw_1438 rfl)
  | 45, _ => exact (lw_okof 1440 qw_1440 rfl)
  | k + 46, h => exact absurd h (by omega)
theorem cl_11 : dnCl 11 RX13 TX13 46 tyX13 := ⟨by decide, rfl, ct_11, tyX13_ok, nmX13, rfl, by decide +kernel⟩
theorem ki_11 : Cond.instantiable RX13 46 ∈ lw_ok := (lw_okof 1299 qw_1299 rfl)
theorem kn_11 : Cond.initialized RX13 ∈ lw_ok := (lw_okof 116 qw_116 rfl)
theorem ka_int : Cond.arrayClass (newarray.typeOf .int) ∈ lw_ok := (lw_okof 187 qw_187 rfl)
theorem ka_char : Cond.arrayClass (newarray.typeOf .char) ∈ lw_ok := (lw_okof 367 qw_367 rfl)
theorem ka_long : Cond.arrayClass (newarray.typeOf .long) ∈ lw_ok := (lw_okof 188 qw_188 rfl)
theorem ka_double : Cond.arrayClass (newarray.typeOf .double) ∈ lw_ok := (lw_okof 189 qw_189 rfl)
theorem ko_1 : Cond.instanceMethod Lib.objectInit ∈ lw_ok := (lw_okof 131 qw_131 rfl)
theorem ko_2 : Cond.code Lib.objectInit ⟨#[0xb1]⟩ 1 none ∈ lw_ok := (lw_okof 132 qw_132 rfl)
theorem kc_1 : Cond.native arraycopyName ∈ lw_ok := (lw_okof 725 qw_725 rfl)
theorem kc_2 : Cond.static arraycopyName ∈ lw_ok := (lw_okof 724 qw_724 rfl)
theorem kc_3 : Cond.initialized "java/lang/System" ∈ lw_ok := (lw_okof 117 qw_117 rfl)
theorem lRX12_10 : dnFL RX12 10 10 0 3 true := ⟨_, _, _, _, cl_10, by decide, rfl, rfl, (lw_okof 387 qw_387 rfl), rfl, tyX12 0, tyX12_ok 0 (by decide), Or.inr (Or.inr (Or.inr ⟨rfl, Or.inl ⟨_, rfl⟩⟩))⟩
theorem lRX12_16 : dnFL RX12 16 10 1 3 true := ⟨_, _, _, _, cl_10, by decide, rfl, rfl, (lw_okof 388 qw_388 rfl), rfl, tyX12 1, tyX12_ok 1 (by decide), Or.inr (Or.inr (Or.inr ⟨rfl, Or.inl ⟨_, rfl⟩⟩))⟩
theorem lRX12_19 : dnFL RX12 19 10 2 3 true := ⟨_, _, _, _, cl_10, by decide, rfl, rfl, (lw_okof 389 qw_389 rfl), rfl, tyX12 2, tyX12_ok 2 (by decide), Or.inr (Or.inr (Or.inr ⟨rfl, Or.inr ⟨_, rfl⟩⟩))⟩
theorem lRX12_26 : dnFL RX12 26 10 3 3 true := ⟨_, _, _, _, cl_10, by decide, rfl, rfl, (lw_okof 390 qw_390 rfl), rfl, tyX12 3, tyX12_ok 3 (by decide), Or.inr (Or.inr (Or.inr ⟨rfl, Or.inl ⟨_, rfl⟩⟩))⟩
theorem lRX12_35 : dnFL RX12 35 10 4 3 true := ⟨_, _, _, _, cl_10, by decide, rfl, rfl, (lw_okof 391 qw_391 rfl), rfl, tyX12 4, tyX12_ok 4 (by decide), Or.inr (Or.inr (Or.inr ⟨rfl, Or.inl ⟨_, rfl⟩⟩))⟩
theorem lRX12_42 : dnFL RX12 42 10 5 3 true := ⟨_, _, _, _, cl_10, by decide, rfl, rfl, (lw_okof 392 qw_392 rfl), rfl, tyX12 5, tyX12_ok 5 (by decide), Or.inr (Or.inr (Or.inr ⟨rfl, Or.inl ⟨_, rfl⟩⟩))⟩
theorem lRX12_49 : dnFL RX12 49 10 6 3 true := ⟨_, _, _, _, cl_10, by decide, rfl, rfl, (lw_okof 393 qw_393 rfl), rfl, tyX12 6, tyX12_ok 6 (by decide), Or.inr (Or.inr (Or.inr ⟨rfl, Or.inl ⟨_, rfl⟩⟩))⟩
theorem lRX12_56 : dnFL RX12 56 10 7 3 true := ⟨_, _, _, _, cl_10, by decide, rfl, rfl, (lw_okof 394 qw_394 rfl), rfl, tyX12 7, tyX12_ok 7 (by decide), Or.inr (Or.inr (Or.inr ⟨rfl, Or.inl ⟨_, rfl⟩⟩))⟩
theorem lRX12_63 : dnFL RX12 63 10 8 3 true := ⟨_, _, _, _, cl_10, by decide, rfl, rfl, (lw_okof 395 qw_395 rfl), rfl, tyX12 8, tyX12_ok 8 (by decide), Or.inr (Or.inr (Or.inr ⟨rfl, Or.inl ⟨_, rfl⟩⟩))⟩
theorem lRX12_70 : dnFL RX12 70 10 9 3 true := ⟨_, _, _, _, cl_10, by decide, rfl, rfl, (lw_okof 396 qw_396 rfl), rfl, tyX12 9, tyX12_ok 9 (by decide), Or.inr (Or.inr (Or.inr ⟨rfl, Or.inl ⟨_, rfl⟩⟩))⟩
theorem lRX12_79 : dnFL RX12 79 10 10 3 true := ⟨_, _, _, _, cl_10, by decide, rfl, rfl, (lw_okof 397 qw_397 rfl), rfl, tyX12 10, tyX12_ok 10 (by decide), Or.inr (Or.inr (Or.inr ⟨rfl, Or.inl ⟨_, rfl⟩⟩))⟩
theorem lRX12_83 : dnFL RX12 83 10 11 3 true := ⟨_, _, _, _, cl_10, by decide, rfl, rfl, (lw_okof 398 qw_398 rfl), rfl, tyX12 11, tyX12_ok 11 (by decide), Or.inr (Or.inr (Or.inr ⟨rfl, Or.inr ⟨_, rfl⟩⟩))⟩
theorem lRX12_223 : dnFL RX12 223 1 1 0 false := ⟨_, _, _, _, cl_1, by decide, rfl, rfl, (lw_okof 222 qw_222 rfl), rfl, tyX2 1, tyX2_ok 1 (by decide), Or.inl ⟨rfl, rfl⟩⟩
theorem lRX12_259 : dnFL RX12 259 1 0 1 false := ⟨_, _, _, _, cl_1, by decide, rfl, rfl, (lw_okof 217 qw_217 rfl), rfl, tyX2 0, tyX2_ok 0 (by decide), Or.inr (Or.inl ⟨rfl, rfl⟩)⟩
theorem lRX12_263 : dnFL RX12 263 1 2 0 false := ⟨_, _, _, _, cl_1, by decide, rfl, rfl, (lw_okof 225 qw_225 rfl), rfl, tyX2 2, tyX2_ok 2 (by decide), Or.inl ⟨rfl, rfl⟩⟩
theorem lRX12_266 : dnFL RX12 266 2 1 0 false := ⟨_, _, _, _, cl_2, by decide, rfl, rfl, (lw_okof 355 qw_355 rfl), rfl, tyX3 1, tyX3_ok 1 (by decide), Or.inl ⟨rfl, rfl⟩⟩
theorem lRX1_9 : dnFL RX1 9 0 1 3 true := ⟨_, _, _, _, cl_0, by decide, rfl, rfl, (lw_okof 375 qw_375 rfl), rfl, tyX1 1, tyX1_ok 1 (by decide), Or.inr (Or.inr (Or.inr ⟨rfl, Or.inr ⟨_, rfl⟩⟩))⟩
theorem lRX1_15 : dnFL RX1 15 0 2 3 true := ⟨_, _, _, _, cl_0, by decide, rfl, rfl, (lw_okof 376 qw_376 rfl), rfl, tyX1 2, tyX1_ok 2 (by decide), Or.inr (Or.inr (Or.inr ⟨rfl, Or.inr ⟨_, rfl⟩⟩))⟩
theorem lRX1_18 : dnFL RX1 18 0 3 0 false := ⟨_, _, _, _, cl_0, by decide, rfl, rfl, (lw_okof 377 qw_377 rfl), rfl, tyX1 3, tyX1_ok 3 (by decide), Or.inl ⟨rfl, rfl⟩⟩
theorem lRX1_22 : dnFL RX1 22 0 0 3 true := ⟨_, _, _, _, cl_0, by decide, rfl, rfl, (lw_okof 374 qw_374 rfl), rfl, tyX1 0, tyX1_ok 0 (by decide), Or.inr (Or.inr (Or.inr ⟨rfl, Or.inl ⟨_, rfl⟩⟩))⟩
theorem lRX1_56 : dnFL RX1 56 1 0 1 false := ⟨_, _, _, _, cl_1, by decide, rfl, rfl, (lw_okof 215 qw_215 rfl), rfl, tyX2 0, tyX2_ok 0 (by decide), Or.inr (Or.inl ⟨rfl, rfl⟩)⟩
theorem lRX2_9 : dnFL RX2 9 1 0 1 false := ⟨_, _, _, _, cl_1, by decide, rfl, rfl, (lw_okof 211 qw_211 rfl), rfl, tyX2 0, tyX2_ok 0 (by decide), Or.inr (Or.inl ⟨rfl, rfl⟩)⟩
theorem lRX2_15 : dnFL RX2 15 1 1 0 false := ⟨_, _, _, _, cl_1, by decide, rfl, rfl, (lw_okof 218 qw_218 rfl), rfl, tyX2 1, tyX2_ok 1 (by decide), Or.inl ⟨rfl, rfl⟩⟩
theorem lRX2_19 : dnFL RX2 19 1 2 0 false := ⟨_, _, _, _, cl_1, by decide, rfl, rfl, (lw_okof 223 qw_223 rfl), rfl, tyX2 2, tyX2_ok 2 (by decide), Or.inl ⟨rfl, rfl⟩⟩
theorem lRX3_9 : dnFL RX3 9 2 0 3 true := ⟨_, _, _, _, cl_2, by decide, rfl, rfl, (lw_okof 353 qw_353 rfl), rfl, tyX3 0, tyX3_ok 0 (by decide), Or.inr (Or.inr (Or.inr ⟨rfl, Or.inr ⟨_, rfl⟩⟩))⟩
theorem lRX3_15 : dnFL RX3 15 2 1 0 false := ⟨_, _, _, _, cl_2, by decide, rfl, rfl, (lw_okof 354 qw_354 rfl), rfl, tyX3 1, tyX3_ok 1 (by decide), Or.inl ⟨rfl, rfl⟩⟩
theorem lRX3_19 : dnFL RX3 19 2 2 3 true := ⟨_, _, _, _, cl_2, by decide, rfl, rfl, (lw_okof 356 qw_356 rfl), rfl, tyX3 2, tyX3_ok 2 (by decide), Or.inr (Or.inr (Or.inr ⟨rfl, Or.inr ⟨_, rfl⟩⟩))⟩
theorem lRX3_23 : dnFL RX3 23 2 3 3 true := ⟨_, _, _, _, cl_2, by decide, rfl, rfl, (lw_okof 357 qw_357 rfl), rfl, tyX3 3, tyX3_ok 3 (by decide), Or.inr (Or.inr (Or.inr ⟨rfl, Or.inr ⟨_, rfl⟩⟩))⟩
theorem lRX4_14 : dnFL RX4 14 3 2 3 true := ⟨_, _, _, _, cl_3, by decide, rfl, rfl, (lw_okof 330 qw_330 rfl), rfl, tyX4 2, tyX4_ok 2 (by decide), Or.inr (Or.inr (Or.inr ⟨rfl, Or.inl ⟨_, rfl⟩⟩))⟩
theorem lRX4_20 : dnFL RX4 20 3 3 3 true := ⟨_, _, _, _, cl_3, by decide, rfl, rfl, (lw_okof 331 qw_331 rfl), rfl, tyX4 3, tyX4_ok 3 (by decide), Or.inr (Or.inr (Or.inr ⟨rfl, Or.inr ⟨_, rfl⟩⟩))⟩
theorem lRX4_24 : dnFL RX4 24 3 5 3 true := ⟨_, _, _, _, cl_3, by decide, rfl, rfl, (lw_okof 333 qw_333 rfl), rfl, tyX4 5, tyX4_ok 5 (by decide), Or.inr (Or.inr (Or.inr ⟨rfl, Or.inr ⟨_, rfl⟩⟩))⟩
theorem lRX4_27 : dnFL RX4 27 3 0 3 true := ⟨_, _, _, _, cl_3, by decide, rfl, rfl, (lw_okof 328 qw_328 rfl), rfl, tyX4 0, tyX4_ok 0 (by decide), Or.inr (Or.inr (Or.inr ⟨rfl, Or.inl ⟨_, rfl⟩⟩))⟩
theorem lRX4_31 : dnFL RX4 31 3 1 3 true := ⟨_, _, _, _, cl_3, by decide, rfl, rfl, (lw_okof 329 qw_329 rfl), rfl, tyX4 1, tyX4_ok 1 (by decide), Or.inr (Or.inr (Or.inr ⟨rfl, Or.inl ⟨_, rfl⟩⟩))⟩
theorem lRX4_59 : dnFL RX4 59 3 4 0 false := ⟨_, _, _, _, cl_3, by decide, rfl, rfl, (lw_okof 332 qw_332 rfl), rfl, tyX4 4, tyX4_ok 4 (by decide), Or.inl ⟨rfl, rfl⟩⟩
theorem lRX4_68 : dnFL RX4 68 1 0 1 false := ⟨_, _, _, _, cl_1, by decide, rfl, rfl, (lw_okof 212 qw_212 rfl), rfl, tyX2 0, tyX2_ok 0 (by decide), Or.inr (Or.inl ⟨rfl, rfl⟩)⟩
theorem lRX4_90 : dnFL RX4 90 7 0 3 true := ⟨_, _, _, _, cl_7, by decide, rfl, rfl, (lw_okof 193 qw_193 rfl), rfl, tyX9 0, tyX9_ok 0 (by decide), Or.inr (Or.inr (Or.inr ⟨rfl, Or.inr ⟨_, rfl⟩⟩))⟩
theorem lRX5_9 : dnFL RX5 9 4 1 0 false := ⟨_, _, _, _, cl_4, by decide, rfl, rfl, (lw_okof 151 qw_151 rfl), rfl, tyX5 1, tyX5_ok 1 (by decide), Or.inl ⟨rfl, rfl⟩⟩
theorem lRX5_15 : dnFL RX5 15 4 2 0 false := ⟨_, _, _, _, cl_4, by decide, rfl, rfl, (lw_okof 157 qw_157 rfl), rfl, tyX5 2, tyX5_ok 2 (by decide), Or.inl ⟨rfl, rfl⟩⟩
theorem lRX5_18 : dnFL RX5 18 4 3 3 true := ⟨_, _, _, _, cl_4, by decide, rfl, rfl, (lw_okof 163 qw_163 rfl), rfl, tyX5 3, tyX5_ok 3 (by decide), Or.inr (Or.inr (Or.inr ⟨rfl, Or.inr ⟨_, rfl⟩⟩))⟩
theorem lRX5_22 : dnFL RX5 22 4 4 3 true := ⟨_, _, _, _, cl_4, by decide, rfl, rfl, (lw_okof 167 qw_167 rfl), rfl, tyX5 4, tyX5_ok 4 (by decide), Or.inr (Or.inr (Or.inr ⟨rfl, Or.inr ⟨_, rfl⟩⟩))⟩
theorem lRX5_26 : dnFL RX5 26 4 5 3 true := ⟨_, _, _, _, cl_4, by decide, rfl, rfl, (lw_okof 172 qw_172 rfl), rfl, tyX5 5, tyX5_ok 5 (by decide), Or.inr (Or.inr (Or.inr ⟨rfl, Or.inr ⟨_, rfl⟩⟩))⟩
theorem lRX5_30 : dnFL RX5 30 4 0 0 true := ⟨_, _, _, _, cl_4, by decide, rfl, rfl, (lw_okof 149 qw_149 rfl), rfl, tyX5 0, tyX5_ok 0 (by decide), Or.inl ⟨rfl, rfl⟩⟩
theorem lRX6_14 : dnFL RX6 14 5 2 3 true := ⟨_, _, _, _, cl_5, by decide, rfl, rfl, (lw_okof 243 qw_243 rfl), rfl, tyX6 2, tyX6_ok 2 (by decide), Or.inr (Or.inr (Or.inr ⟨rfl, Or.inl ⟨_, rfl⟩⟩))⟩
theorem lRX6_20 : dnFL RX6 20 5 3 3 true := ⟨_, _, _, _, cl_5, by decide, rfl, rfl, (lw_okof 244 qw_244 rfl), rfl, tyX6 3, tyX6_ok 3 (by decide), Or.inr (Or.inr (Or.inr ⟨rfl, Or.inl ⟨_, rfl⟩⟩))⟩
theorem lRX6_23 : dnFL RX6 23 5 0 3 true := ⟨_, _, _, _, cl_5, by decide, rfl, rfl, (lw_okof 241 qw_241 rfl), rfl, tyX6 0, tyX6_ok 0 (by decide), Or.inr (Or.inr (Or.inr ⟨rfl, Or.inl ⟨_, rfl⟩⟩))⟩
theorem lRX6_27 : dnFL RX6 27 5 1 3 true := ⟨_, _, _, _, cl_5, by decide, rfl, rfl, (lw_okof 242 qw_242 rfl), rfl, tyX6 1, tyX6_ok 1 (by decide), Or.inr (Or.inr (Or.inr ⟨rfl, Or.inl ⟨_, rfl⟩⟩))⟩
theorem lRX6_48 : dnFL RX6 48 4 1 0 false := ⟨_, _, _, _, cl_4, by decide, rfl, rfl, (lw_okof 152 qw_152 rfl), rfl, tyX5 1, tyX5_ok 1 (by decide), Or.inl ⟨rfl, rfl⟩⟩
theorem lRX6_68 : dnFL RX6 68 1 0 1 false := ⟨_, _, _, _, cl_1, by decide, rfl, rfl, (lw_okof 213 qw_213 rfl), rfl, tyX2 0, tyX2_ok 0 (by decide), Or.inr (Or.inl ⟨rfl, rfl⟩)⟩
theorem lRX6_74 : dnFL RX6 74 4 3 3 true := ⟨_, _, _, _, cl_4, by decide, rfl, rfl, (lw_okof 164 qw_164 rfl), rfl, tyX5 3, tyX5_ok 3 (by decide), Or.inr (Or.inr (Or.inr ⟨rfl, Or.inr ⟨_, rfl⟩⟩))⟩
theorem lRX6_92 : dnFL RX6 92 4 2 0 false := ⟨_, _, _, _, cl_4, by decide, rfl, rfl, (lw_okof 160 qw_160 rfl), rfl, tyX5 2, tyX5_ok 2 (by decide), Or.inl ⟨rfl, rfl⟩⟩
theorem lRX6_115 : dnFL RX6 115 1 1 0 false := ⟨_, _, _, _, cl_1, by decide, rfl, rfl, (lw_okof 221 qw_221 rfl), rfl, tyX2 1, tyX2_ok 1 (by decide), Or.inl ⟨rfl, rfl⟩⟩
theorem lRX6_138 : dnFL RX6 138 4 5 3 true := ⟨_, _, _, _, cl_4, by decide, rfl, rfl, (lw_okof 173 qw_173 rfl), rfl, tyX5 5, tyX5_ok 5 (by decide), Or.inr (Or.inr (Or.inr ⟨rfl, Or.inr ⟨_, rfl⟩⟩))⟩
theorem lRX6_146 : dnFL RX6 146 4 4 3 true := ⟨_, _, _, _, cl_4, by decide, rfl, rfl, (lw_okof 171 qw_171 rfl), rfl, tyX5 4, tyX5_ok 4 (by decide), Or.inr (Or.inr (Or.inr ⟨rfl, Or.inr ⟨_, rfl⟩⟩))⟩
theorem lRX7_9 : dnFL RX7 9 6 2 3 true := ⟨_, _, _, _, cl_6, by decide, rfl, rfl, (lw_okof 300 qw_300 rfl), rfl, tyX7 2, tyX7_ok 2 (by decide), Or.inr (Or.inr (Or.inr ⟨rfl, Or.inr ⟨_, rfl⟩⟩))⟩
theorem lRX7_15 : dnFL RX7 15 6 3 3 true := ⟨_, _, _, _, cl_6, by decide, rfl, rfl, (lw_okof 301 qw_301 rfl), rfl, tyX7 3, tyX7_ok 3 (by decide), Or.inr (Or.inr (Or.inr ⟨rfl, Or.inr ⟨_, rfl⟩⟩))⟩
theorem lRX7_18 : dnFL RX7 18 6 4 3 true := ⟨_, _, _, _, cl_6, by decide, rfl, rfl, (lw_okof 302 qw_302 rfl), rfl, tyX7 4, tyX7_ok 4 (by decide), Or.inr (Or.inr (Or.inr ⟨rfl, Or.inr ⟨_, rfl⟩⟩))⟩
theorem lRX7_21 : dnFL RX7 21 6 0 3 true := ⟨_, _, _, _, cl_6, by decide, rfl, rfl, (lw_okof 298 qw_298 rfl), rfl, tyX7 0, tyX7_ok 0 (by decide), Or.inr (Or.inr (Or.inr ⟨rfl, Or.inl ⟨_, rfl⟩⟩))⟩
theorem lRX7_25 : dnFL RX7 25 6 1 3 true := ⟨_, _, _, _, cl_6, by decide, rfl, rfl, (lw_okof 299 qw_299 rfl), rfl, tyX7 1, tyX7_ok 1 (by decide), Or.inr (Or.inr (Or.inr ⟨rfl, Or.inl ⟨_, rfl⟩⟩))⟩
theorem lRX7_43 : dnFL RX7 43 7 0 3 true := ⟨_, _, _, _, cl_7, by decide, rfl, rfl, (lw_okof 191 qw_191 rfl), rfl, tyX9 0, tyX9_ok 0 (by decide), Or.inr (Or.inr (Or.inr ⟨rfl, Or.inr ⟨_, rfl⟩⟩))⟩
theorem lRX7_55 : dnFL RX7 55 4 2 0 false := ⟨_, _, _, _, cl_4, by decide, rfl, rfl, (lw_okof 159 qw_159 rfl), rfl, tyX5 2, tyX5_ok 2 (by decide), Or.inl ⟨rfl, rfl⟩⟩
theorem lRX7_77 : dnFL RX7 77 4 4 3 true := ⟨_, _, _, _, cl_4, by decide, rfl, rfl, (lw_okof 168 qw_168 rfl), rfl, tyX5 4, tyX5_ok 4 (by decide), Or.inr (Or.inr (Or.inr ⟨rfl, Or.inr ⟨_, rfl⟩⟩))⟩
theorem lRX7_88 : dnFL RX7 88 1 0 1 false := ⟨_, _, _, _, cl_1, by decide, rfl, rfl, (lw_okof 214 qw_214 rfl), rfl, tyX2 0, tyX2_ok 0 (by decide), Or.inr (Or.inl ⟨rfl, rfl⟩)⟩
theorem lRX7_94 : dnFL RX7 94 1 1 0 false := ⟨_, _, _, _, cl_1, by decide, rfl, rfl, (lw_okof 219 qw_219 rfl), rfl, tyX2 1, tyX2_ok 1 (by decide), Or.inl ⟨rfl, rfl⟩⟩
theorem lRX7_97 : dnFL RX7 97 6 6 0 false := ⟨_, _, _, _, cl_6, by decide, rfl, rfl, (lw_okof 304 qw_304 rfl), rfl, tyX7 6, tyX7_ok 6 (by decide), Or.inl ⟨rfl, rfl⟩⟩
theorem lRX7_104 : dnFL RX7 104 6 5 1 false := ⟨_, _, _, _, cl_6, by decide, rfl, rfl, (lw_okof 303 qw_303 rfl), rfl, tyX7 5, tyX7_ok 5 (by decide), Or.inr (Or.inl ⟨rfl, rfl⟩)⟩
theorem lRX7_113 : dnFL RX7 113 4 1 0 false := ⟨_, _, _, _, cl_4, by decide, rfl, rfl, (lw_okof 155 qw_155 rfl), rfl, tyX5 1, tyX5_ok 1 (by decide), Or.inl ⟨rfl, rfl⟩⟩
theorem lRX7_138 : dnFL RX7 138 4 3 3 true := ⟨_, _, _, _, cl_4, by decide, rfl, rfl, (lw_okof 165 qw_165 rfl), rfl, tyX5 3, tyX5_ok 3 (by decide), Or.inr (Or.inr (Or.inr ⟨rfl, Or.inr ⟨_, rfl⟩⟩))⟩
theorem lRX9_9 : dnFL RX9 9 7 0 3 true := ⟨_, _, _, _, cl_7, by decide, rfl, rfl, (lw_okof 190 qw_190 rfl), rfl, tyX9 0, tyX9_ok 0 (by decide), Or.inr (Or.inr (Or.inr ⟨rfl, Or.inr ⟨_, rfl⟩⟩))⟩
theorem lRX9_15 : dnFL RX9 15 7 1 3 true := ⟨_, _, _, _, cl_7, by decide, rfl, rfl, (lw_okof 195 qw_195 rfl), rfl, tyX9 1, tyX9_ok 1 (by decide), Or.inr (Or.inr (Or.inr ⟨rfl, Or.inr ⟨_, rfl⟩⟩))⟩
theorem lRX9_20 : dnFL RX9 20 7 2 3 true := ⟨_, _, _, _, cl_7, by decide, rfl, rfl, (lw_okof 196 qw_196 rfl), rfl, tyX9 2, tyX9_ok 2 (by decide), Or.inr (Or.inr (Or.inr ⟨rfl, Or.inr ⟨_, rfl⟩⟩))⟩
theorem lRX9_66 : dnFL RX9 66 4 0 0 true := ⟨_, _, _, _, cl_4, by decide, rfl, rfl, (lw_okof 150 qw_150 rfl), rfl, tyX5 0, tyX5_ok 0 (by decide), Or.inl ⟨rfl, rfl⟩⟩
theorem lRX9_97 : dnFL RX9 97 4 1 0 false := ⟨_, _, _, _, cl_4, by decide, rfl, rfl, (lw_okof 156 qw_156 rfl), rfl, tyX5 1, tyX5_ok 1 (by decide), Or.inl ⟨rfl, rfl⟩⟩
theorem lRX9_103 : dnFL RX9 103 4 2 0 false := ⟨_, _, _, _, cl_4, by decide, rfl, rfl, (lw_okof 162 qw_162 rfl), rfl, tyX5 2, tyX5_ok 2 (by decide), Or.inl ⟨rfl, rfl⟩⟩
theorem lRX9_129 : dnFL RX9 129 4 3 3 true := ⟨_, _, _, _, cl_4, by decide, rfl, rfl, (lw_okof 166 qw_166 rfl), rfl, tyX5 3, tyX5_ok 3 (by decide), Or.inr (Or.inr (Or.inr ⟨rfl, Or.inr ⟨_, rfl⟩⟩))⟩
theorem lRX10_9 : dnFL RX10 9 8 0 3 true := ⟨_, _, _, _, cl_8, by decide, rfl, rfl, (lw_okof 273 qw_273 rfl), rfl, tyX10 0, tyX10_ok 0 (by decide), Or.inr (Or.inr (Or.inr ⟨rfl, Or.inl ⟨_, rfl⟩⟩))⟩
theorem lRX10_15 : dnFL RX10 15 8 1 3 true := ⟨_, _, _, _, cl_8, by decide, rfl, rfl, (lw_okof 274 qw_274 rfl), rfl, tyX10 1, tyX10_ok 1 (by decide), Or.inr (Or.inr (Or.inr ⟨rfl, Or.inl ⟨_, rfl⟩⟩))⟩
theorem lRX10_23 : dnFL RX10 23 8 2 1 false := ⟨_, _, _, _, cl_8, by decide, rfl, rfl, (lw_okof 275 qw_275 rfl), rfl, tyX10 2, tyX10_ok 2 (by decide), Or.inr (Or.inl ⟨rfl, rfl⟩)⟩
theorem lRX10_27 : dnFL RX10 27 8 3 2 false := ⟨_, _, _, _, cl_8, by decide, rfl, rfl, (lw_okof 276 qw_276 rfl), rfl, tyX10 3, tyX10_ok 3 (by decide), Or.inr (Or.inr (Or.inl ⟨rfl, rfl⟩))⟩
theorem lRX10_31 : dnFL RX10 31 8 4 0 false := ⟨_, _, _, _, cl_8, by decide, rfl, rfl, (lw_okof 277 qw_277 rfl), rfl, tyX10 4, tyX10_ok 4 (by decide), Or.inl ⟨rfl, rfl⟩⟩
theorem lRX10_35 : dnFL RX10 35 8 5 0 false := ⟨_, _, _, _, cl_8, by decide, rfl, rfl, (lw_okof 278 qw_278 rfl), rfl, tyX10 5, tyX10_ok 5 (by decide), Or.inl ⟨rfl, rfl⟩⟩
theorem lRX10_58 : dnFL RX10 58 7 0 3 true := ⟨_, _, _, _, cl_7, by decide, rfl, rfl, (lw_okof 194 qw_194 rfl), rfl, tyX9 0, tyX9_ok 0 (by decide), Or.inr (Or.inr (Or.inr ⟨rfl, Or.inr ⟨_, rfl⟩⟩))⟩
theorem lRX10_80 : dnFL RX10 80 1 0 1 false := ⟨_, _, _, _, cl_1, by decide, rfl, rfl, (lw_okof 216 qw_216 rfl), rfl, tyX2 0, tyX2_ok 0 (by decide), Or.inr (Or.inl ⟨rfl, rfl⟩)⟩
theorem lRX10_85 : dnFL RX10 85 1 2 0 false := ⟨_, _, _, _, cl_1, by decide, rfl, rfl, (lw_okof 224 qw_224 rfl), rfl, tyX2 2, tyX2_ok 2 (by decide), Or.inl ⟨rfl, rfl⟩⟩
theorem lRX10_88 : dnFL RX10 88 4 1 0 false := ⟨_, _, _, _, cl_4, by decide, rfl, rfl, (lw_okof 154 qw_154 rfl), rfl, tyX5 1, tyX5_ok 1 (by decide), Or.inl ⟨rfl, rfl⟩⟩
theorem lRX10_105 : dnFL RX10 105 4 4 3 true := ⟨_, _, _, _, cl_4, by decide, rfl, rfl, (lw_okof 170 qw_170 rfl), rfl, tyX5 4, tyX5_ok 4 (by decide), Or.inr (Or.inr (Or.inr ⟨rfl, Or.inr ⟨_, rfl⟩⟩))⟩
theorem lRX10_128 : dnFL RX10 128 4 2 0 false := ⟨_, _, _, _, cl_4, by decide, rfl, rfl, (lw_okof 161 qw_161 rfl), rfl, tyX5 2, tyX5_ok 2 (by decide), Or.inl ⟨rfl, rfl⟩⟩
theorem lRX11_9 : dnFL RX11 9 9 0 3 true := ⟨_, _, _, _, cl_9, by decide, rfl, rfl, (lw_okof 260 qw_260 rfl), rfl, tyX11 0, tyX11_ok 0 (by decide), Or.inr (Or.inr (Or.inr ⟨rfl, Or.inl ⟨_, rfl⟩⟩))⟩
theorem lRX11_15 : dnFL RX11 15 9 1 3 true := ⟨_, _, _, _, cl_9, by decide, rfl, rfl, (lw_okof 261 qw_261 rfl), rfl, tyX11 1, tyX11_ok 1 (by decide), Or.inr (Or.inr (Or.inr ⟨rfl, Or.inl ⟨_, rfl⟩⟩))⟩
theorem lRX11_33 : dnFL RX11 33 7 0 3 true := ⟨_, _, _, _, cl_7, by decide, rfl, rfl, (lw_okof 192 qw_192 rfl), rfl, tyX9 0, tyX9_ok 0 (by decide), Or.inr (Or.inr (Or.inr ⟨rfl, Or.inr ⟨_, rfl⟩⟩))⟩
theorem lRX11_41 : dnFL RX11 41 4 2 0 false := ⟨_, _, _, _, cl_4, by decide, rfl, rfl, (lw_okof 158 qw_158 rfl), rfl, tyX5 2, tyX5_ok 2 (by decide), Or.inl ⟨rfl, rfl⟩⟩
theorem lRX11_47 : dnFL RX11 47 4 1 0 false := ⟨_, _, _, _, cl_4, by decide, rfl, rfl, (lw_okof 153 qw_153 rfl), rfl, tyX5 1, tyX5_ok 1 (by decide), Or.inl ⟨rfl, rfl⟩⟩
theorem lRX11_102 : dnFL RX11 102 1 1 0 false := ⟨_, _, _, _, cl_1, by decide, rfl, rfl, (lw_okof 220 qw_220 rfl), rfl, tyX2 1, tyX2_ok 1 (by decide), Or.inl ⟨rfl, rfl⟩⟩
theorem lRX11_111 : dnFL RX11 111 4 4 3 true := ⟨_, _, _, _, cl_4, by decide, rfl, rfl, (lw_okof 169 qw_169 rfl), rfl, tyX5 4, tyX5_ok 4 (by decide), Or.inr (Or.inr (Or.inr ⟨rfl, Or.inr ⟨_, rfl⟩⟩))⟩
theorem lRX13_7 : dnFL RX13 7 11 0 3 true := ⟨_, _, _, _, cl_11, by decide, rfl, rfl, (lw_okof 1304 qw_1304 rfl), rfl, tyX13 0, tyX13_ok 0 (by decide), Or.inr (Or.inr (Or.inr ⟨rfl, Or.inr ⟨_, rfl⟩⟩))⟩
theorem lRX13_13 : dnFL RX13 13 11 2 0 false := ⟨_, _, _, _, cl_11, by decide, rfl, rfl, (lw_okof 1306 qw_1306 rfl), rfl, tyX13 2, tyX13_ok 2 (by decide), Or.inl ⟨rfl, rfl⟩⟩
theorem lRX13_17 : dnFL RX13 17 11 4 3 true := ⟨_, _, _, _, cl_11, by decide, rfl, rfl, (lw_okof 1308 qw_1308 rfl), rfl, tyX13 4, tyX13_ok 4 (by decide), Or.inr (Or.inr (Or.inr ⟨rfl, Or.inr ⟨_, rfl⟩⟩))⟩
theorem lRX13_20 : dnFL RX13 20 11 5 3 true := ⟨_, _, _, _, cl_11, by decide, rfl, rfl, (lw_okof 1309 qw_1309 rfl), rfl, tyX13 5, tyX13_ok 5 (by decide), Or.inr (Or.inr (Or.inr ⟨rfl, Or.inr ⟨_, rfl⟩⟩))⟩
theorem lRX13_23 : dnFL RX13 23 11 6 3 true := ⟨_, _, _, _, cl_11, by decide, rfl, rfl, (lw_okof 1310 qw_1310 rfl), rfl, tyX13 6, tyX13_ok 6 (by decide), Or.inr (Or.inr (Or.inr ⟨rfl, Or.inr ⟨_, rfl⟩⟩))⟩
theorem lRX13_26 : dnFL RX13 26 11 7 3 true := ⟨_, _, _, _, cl_11, by decide, rfl, rfl, (lw_okof 1311 qw_1311 rfl), rfl, tyX13 7, tyX13_ok 7 (by decide), Or.inr (Or.inr (Or.inr ⟨rfl, Or.inr ⟨_, rfl⟩⟩))⟩
theorem lRX13_29 : dnFL RX13 29 11 8 3 true := ⟨_, _, _, _, cl_11, by decide, rfl, rfl, (lw_okof 1312 qw_1312 rfl), rfl, tyX13 8, tyX13_ok 8 (by decide), Or.inr (Or.inr (Or.inr ⟨rfl, Or.inr ⟨_, rfl⟩⟩))⟩
theorem lRX13_32 : dnFL RX13 32 11 9 3 true := ⟨_, _, _, _, cl_11, by decide, rfl, rfl, (lw_okof 1313 qw_1313 rfl), rfl, tyX13 9, tyX13_ok 9 (by decide), Or.inr (Or.inr (Or.inr ⟨rfl, Or.inr ⟨_, rfl⟩⟩))⟩
theorem lRX13_35 : dnFL RX13 35 11 10 3 true := ⟨_, _, _, _, cl_11, by decide, rfl, rfl, (lw_okof 1314 qw_1314 rfl), rfl, tyX13 10, tyX13_ok 10 (by decide), Or.inr (Or.inr (Or.inr ⟨rfl, Or.inr ⟨_, rfl⟩⟩))⟩
theorem lRX13_39 : dnFL RX13 39 11 11 3 true := ⟨_, _, _, _, cl_11, by decide, rfl, rfl, (lw_okof 1315 qw_1315 rfl), rfl, tyX13 11, tyX13_ok 11 (by decide), Or.inr (Or.inr (Or.inr ⟨rfl, Or.inr ⟨_, rfl⟩⟩))⟩
theorem lRX13_43 : dnFL RX13 43 11 15 3 true := ⟨_, _, _, _, cl_11, by decide, rfl, rfl, (lw_okof 1319 qw_1319 rfl), rfl, tyX13 15, tyX13_ok 15 (by decide), Or.inr (Or.inr (Or.inr ⟨rfl, Or.inr ⟨_, rfl⟩⟩))⟩
theorem lRX13_46 : dnFL RX13 46 11 16 3 true := ⟨_, _, _, _, cl_11, by decide, rfl, rfl, (lw_okof 1320 qw_1320 rfl), rfl, tyX13 16, tyX13_ok 16 (by decide), Or.inr (Or.inr (Or.inr ⟨rfl, Or.inr ⟨_, rfl⟩⟩))⟩
theorem lRX13_49 : dnFL RX13 49 11 17 3 true := ⟨_, _, _, _, cl_11, by decide, rfl, rfl, (lw_okof 1321 qw_1321 rfl), rfl, tyX13 17, tyX13_ok 17 (by decide), Or.inr (Or.inr (Or.inr ⟨rfl, Or.inr ⟨_, rfl⟩⟩))⟩
theorem lRX13_52 : dnFL RX13 52 11 18 3 true := ⟨_, _, _, _, cl_11, by decide, rfl, rfl, (lw_okof 1322 qw_1322 rfl), rfl, tyX13 18, tyX13_ok 18 (by decide), Or.inr (Or.inr (Or.inr ⟨rfl, Or.inr ⟨_, rfl⟩⟩))⟩
theorem lRX13_55 : dnFL RX13 55 11 22 3 true := ⟨_, _, _, _, cl_11, by decide, rfl, rfl, (lw_okof 1326 qw_1326 rfl), rfl, tyX13 22, tyX13_ok 22 (by decide), Or.inr (Or.inr (Or.inr ⟨rfl, Or.inr ⟨_, rfl⟩⟩))⟩
theorem lRX13_58 : dnFL RX13 58 11 23 3 true := ⟨_, _, _, _, cl_11, by decide, rfl, rfl, (lw_okof 1327 qw_1327 rfl), rfl, tyX13 23, tyX13_ok 23 (by decide), Or.inr (Or.inr (Or.inr ⟨rfl, Or.inr ⟨_, rfl⟩⟩))⟩
theorem lRX13_61 : dnFL RX13 61 11 24 3 true := ⟨_, _, _, _, cl_11, by decide, rfl, rfl, (lw_okof 1328 qw_1328 rfl), rfl, tyX13 24, tyX13_ok 24 (by decide), Or.inr (Or.inr (Or.inr ⟨rfl, Or.inr ⟨_, rfl⟩⟩))⟩
theorem lRX13_64 : dnFL RX13 64 11 25 3 true := ⟨_, _, _, _, cl_11, by decide, rfl, rfl, (lw_okof 1329 qw_1329 rfl), rfl, tyX13 25, tyX13_ok 25 (by decide), Or.inr (Or.inr (Or.inr ⟨rfl, Or.inr ⟨_, rfl⟩⟩))⟩
theorem lRX13_67 : dnFL RX13 67 11 26 3 true := ⟨_, _, _, _, cl_11, by decide, rfl, rfl, (lw_okof 1330 qw_1330 rfl), rfl, tyX13 26, tyX13_ok 26 (by decide), Or.inr (Or.inr (Or.inr ⟨rfl, Or.inr ⟨_, rfl⟩⟩))⟩
theorem lRX13_70 : dnFL RX13 70 11 28 3 true := ⟨_, _, _, _, cl_11, by decide, rfl, rfl, (lw_okof 1332 qw_1332 rfl), rfl, tyX13 28, tyX13_ok 28 (by decide), Or.inr (Or.inr (Or.inr ⟨rfl, Or.inr ⟨_, rfl⟩⟩))⟩
theorem lRX13_73 : dnFL RX13 73 11 29 3 true := ⟨_, _, _, _, cl_11, by decide, rfl, rfl, (lw_okof 1333 qw_1333 rfl), rfl, tyX13 29, tyX13_ok 29 (by decide), Or.inr (Or.inr (Or.inr ⟨rfl, Or.inr ⟨_, rfl⟩⟩))⟩
theorem lRX13_76 : dnFL RX13 76 11 30 3 true := ⟨_, _, _, _, cl_11, by decide, rfl, rfl, (lw_okof 1334 qw_1334 rfl), rfl, tyX13 30, tyX13_ok 30 (by decide), Or.inr (Or.inr (Or.inr ⟨rfl, Or.inr ⟨_, rfl⟩⟩))⟩
theorem lRX13_79 : dnFL RX13 79 11 31 3 true := ⟨_, _, _, _, cl_11, by decide, rfl, rfl, (lw_okof 1335 qw_1335 rfl), rfl, tyX13 31, tyX13_ok 31 (by decide), Or.inr (Or.inr (Or.inr ⟨rfl, Or.inr ⟨_, rfl⟩⟩))⟩
theorem lRX13_82 : dnFL RX13 82 11 32 3 true := ⟨_, _, _, _, cl_11, by decide, rfl, rfl, (lw_okof 1336 qw_1336 rfl), rfl, tyX13 32, tyX13_ok 32 (by decide), Or.inr (Or.inr (Or.inr ⟨rfl, Or.inr ⟨_, rfl⟩⟩))⟩
theorem lRX13_85 : dnFL RX13 85 11 33 3 true := ⟨_, _, _, _, cl_11, by decide, rfl, rfl, (lw_okof 1337 qw_1337 rfl), rfl, tyX13 33, tyX13_ok 33 (by decide), Or.inr (Or.inr (Or.inr ⟨rfl, Or.inr ⟨_, rfl⟩⟩))⟩
theorem lRX13_88 : dnFL RX13 88 11 34 3 true := ⟨_, _, _, _, cl_11, by decide, rfl, rfl, (lw_okof 1338 qw_1338 rfl), rfl, tyX13 34, tyX13_ok 34 (by decide), Or.inr (Or.inr (Or.inr ⟨rfl, Or.inr ⟨_, rfl⟩⟩))⟩
theorem lRX13_91 : dnFL RX13 91 11 35 3 true := ⟨_, _, _, _, cl_11, by decide, rfl, rfl, (lw_okof 1339 qw_1339 rfl), rfl, tyX13 35, tyX13_ok 35 (by decide), Or.inr (Or.inr (Or.inr ⟨rfl, Or.inr ⟨_, rfl⟩⟩))⟩
theorem lRX13_94 : dnFL RX13 94 11 36 3 true := ⟨_, _, _, _, cl_11, by decide, rfl, rfl, (lw_okof 1340 qw_1340 rfl), rfl, tyX13 36, tyX13_ok 36 (by decide), Or.inr (Or.inr (Or.inr ⟨rfl, Or.inr ⟨_, rfl⟩⟩))⟩
theorem lRX13_97 : dnFL RX13 97 11 41 3 true := ⟨_, _, _, _, cl_11, by decide, rfl, rfl, (lw_okof 1345 qw_1345 rfl), rfl, tyX13 41, tyX13_ok 41 (by decide), Or.inr (Or.inr (Or.inr ⟨rfl, Or.inr ⟨_, rfl⟩⟩))⟩
theorem lRX13_100 : dnFL RX13 100 11 42 3 true := ⟨_, _, _, _, cl_11, by decide, rfl, rfl, (lw_okof 1346 qw_1346 rfl), rfl, tyX13 42, tyX13_ok 42 (by decide), Or.inr (Or.inr (Or.inr ⟨rfl, Or.inr ⟨_, rfl⟩⟩))⟩
theorem lRX13_103 : dnFL RX13 103 11 44 3 true := ⟨_, _, _, _, cl_11, by decide, rfl, rfl, (lw_okof 1348 qw_1348 rfl), rfl, tyX13 44, tyX13_ok 44 (by decide), Or.inr (Or.inr (Or.inr ⟨rfl, Or.inr ⟨_, rfl⟩⟩))⟩
theorem lRX13_106 : dnFL RX13 106 11 45 3 true := ⟨_, _, _, _, cl_11, by decide, rfl, rfl, (lw_okof 1349 qw_1349 rfl), rfl, tyX13 45, tyX13_ok 45 (by decide), Or.inr (Or.inr (Or.inr ⟨rfl, Or.inr ⟨_, rfl⟩⟩))⟩
theorem lRX13_116 : dnFL RX13 116 11 1 1 false := ⟨_, _, _, _, cl_11, by decide, rfl, rfl, (lw_okof 1305 qw_1305 rfl), rfl, tyX13 1, tyX13_ok 1 (by decide), Or.inr (Or.inl ⟨rfl, rfl⟩)⟩
theorem lRX13_190 : dnFL RX13 190 11 12 0 false := ⟨_, _, _, _, cl_11, by decide, rfl, rfl, (lw_okof 1316 qw_1316 rfl), rfl, tyX13 12, tyX13_ok 12 (by decide), Or.inl ⟨rfl, rfl⟩⟩
theorem lRX13_193 : dnFL RX13 193 11 14 2 false := ⟨_, _, _, _, cl_11, by decide, rfl, rfl, (lw_okof 1318 qw_1318 rfl), rfl, tyX13 14, tyX13_ok 14 (by decide), Or.inr (Or.inr (Or.inl ⟨rfl, rfl⟩))⟩
theorem lRX13_197 : dnFL RX13 197 11 13 1 false := ⟨_, _, _, _, cl_11, by decide, rfl, rfl, (lw_okof 1317 qw_1317 rfl), rfl, tyX13 13, tyX13_ok 13 (by decide), Or.inr (Or.inl ⟨rfl, rfl⟩)⟩
theorem lRX13_370 : dnFL RX13 370 11 20 1 false := ⟨_, _, _, _, cl_11, by decide, rfl, rfl, (lw_okof 1324 qw_1324 rfl), rfl, tyX13 20, tyX13_ok 20 (by decide), Or.inr (Or.inl ⟨rfl, rfl⟩)⟩
theorem lRX13_373 : dnFL RX13 373 11 19 0 false := ⟨_, _, _, _, cl_11, by decide, rfl, rfl, (lw_okof 1323 qw_1323 rfl), rfl, tyX13 19, tyX13_ok 19 (by decide), Or.inl ⟨rfl, rfl⟩⟩
theorem lRX13_376 : dnFL RX13 376 11 21 2 false := ⟨_, _, _, _, cl_11, by decide, rfl, rfl, (lw_okof 1325 qw_1325 rfl), rfl, tyX13 21, tyX13_ok 21 (by decide), Or.inr (Or.inr (Or.inl ⟨rfl, rfl⟩))⟩
theorem lRX13_389 : dnFL RX13 389 11 3 0 false := ⟨_, _, _, _, cl_11, by decide, rfl, rfl, (lw_okof 1307 qw_1307 rfl), rfl, tyX13 3, tyX13_ok 3 (by decide), Or.inl ⟨rfl, rfl⟩⟩
theorem lRX13_439 : dnFL RX13 439 11 27 1 false := ⟨_, _, _, _, cl_11, by decide, rfl, rfl, (lw_okof 1331 qw_1331 rfl), rfl, tyX13 27, tyX13_ok 27 (by decide), Or.inr (Or.inl ⟨rfl, rfl⟩)⟩
theorem lRX13_466 : dnFL RX13 466 11 37 0 false := ⟨_, _, _, _, cl_11, by decide, rfl, rfl, (lw_okof 1341 qw_1341 rfl), rfl, tyX13 37, tyX13_ok 37 (by decide), Or.inl ⟨rfl, rfl⟩⟩
theorem lRX13_469 : dnFL RX13 469 11 38 0 false := ⟨_, _, _, _, cl_11, by decide, rfl, rfl, (lw_okof 1342 qw_1342 rfl), rfl, tyX13 38, tyX13_ok 38 (by decide), Or.inl ⟨rfl, rfl⟩⟩
theorem lRX13_490 : dnFL RX13 490 11 39 0 false := ⟨_, _, _, _, cl_11, by decide, rfl, rfl, (lw_okof 1343 qw_1343 rfl), rfl, tyX13 39, tyX13_ok 39 (by decide), Or.inl ⟨rfl, rfl⟩⟩
theorem lRX13_496 : dnFL RX13 496 11 40 0 false := ⟨_, _, _, _, cl_11, by decide, rfl, rfl, (lw_okof 1344 qw_1344 rfl), rfl, tyX13 40, tyX13_ok 40 (by decide), Or.inl ⟨rfl, rfl⟩⟩
theorem lRX13_531 : dnFL RX13 531 11 43 0 false := ⟨_, _, _, _, cl_11, by decide, rfl, rfl, (lw_okof 1347 qw_1347 rfl), rfl, tyX13 43, tyX13_ok 43 (by decide), Or.inl ⟨rfl, rfl⟩⟩
theorem kRX12_1 : Cond.methodLink RX12 1 Lib.objectInit ∈ lw_ok := (lw_okof 130 qw_130 rfl)
theorem kRX12_7 : Cond.classLink RX12 7 RX9 ∈ lw_ok := (lw_okof 133 qw_133 rfl)
theorem wn_KindGrids_Store : Cond.initialized "KindGrids$Store" ∈ lw_ok := (lw_okof 105 qw_105 rfl)
theorem wc_X9_init : Cond.code yX9_init cX9_init 2 none ∈ lw_ok := (lw_okof 137 qw_137 rfl)
theorem pd_0 : (parseMethodDescriptor "()V").map (fun d => d.parameters.length) = some 0 := by decide +kernel
theorem pn_KindGrids_Store : ("KindGrids$Store" : String) ≠ "java/lang/invoke/MethodHandle" ∧ ("KindGrids$Store" : String) ≠ "java/lang/invoke/VarHandle" := by decide +kernel
theorem wd_X9_init : yX9_init.cls ≠ "java/lang/invoke/MethodHandle" ∧ yX9_init.cls ≠ "java/lang/invoke/VarHandle" ∧ (parseMethodDescriptor yX9_init.desc).map (fun d => d.parameters.length) = some 0 := ⟨pn_KindGrids_Store.1, pn_KindGrids_Store.2, pd_0⟩
theorem wi_X9_init : Cond.instanceMethod yX9_init ∈ lw_ok := (lw_okof 136 qw_136 rfl)
theorem kRX12_9 : dnLI RX12 9 0 yX9_init cX9_init 2 := ⟨(lw_okof 135 qw_135 rfl), wi_X9_init, wn_KindGrids_Store, wc_X9_init, rfl, wd_X9_init⟩
theorem kRX12_23 : Cond.classLink RX12 23 RX2 ∈ lw_ok := (lw_okof 205 qw_205 rfl)
theorem wn_KindGrids_Notes : Cond.initialized "KindGrids$Notes" ∈ lw_ok := (lw_okof 108 qw_108 rfl)
theorem wc_X2_init : Cond.code yX2_init cX2_init 1 none ∈ lw_ok := (lw_okof 209 qw_209 rfl)
theorem pn_KindGrids_Notes : ("KindGrids$Notes" : String) ≠ "java/lang/invoke/MethodHandle" ∧ ("KindGrids$Notes" : String) ≠ "java/lang/invoke/VarHandle" := by decide +kernel
theorem wd_X2_init : yX2_init.cls ≠ "java/lang/invoke/MethodHandle" ∧ yX2_init.cls ≠ "java/lang/invoke/VarHandle" ∧ (parseMethodDescriptor yX2_init.desc).map (fun d => d.parameters.length) = some 0 := ⟨pn_KindGrids_Notes.1, pn_KindGrids_Notes.2, pd_0⟩
theorem wi_X2_init : Cond.instanceMethod yX2_init ∈ lw_ok := (lw_okof 208 qw_208 rfl)
theorem kRX12_25 : dnLIN RX12 RX12 25 0 yX2_init cX2_init 1 := ⟨(lw_nestof 207 qw_207 rfl), wi_X2_init, wn_KindGrids_Notes, wc_X2_init, rfl, wd_X2_init⟩
theorem kRX12_30 : Cond.classLink RX12 30 RX6 ∈ lw_ok := (lw_okof 233 qw_233 rfl)
theorem wn_KindGrids_Rows : Cond.initialized "KindGrids$Rows" ∈ lw_ok := (lw_okof 109 qw_109 rfl)
theorem wc_X6_init : Cond.code yX6_init cX6_init 3 none ∈ lw_ok := (lw_okof 237 qw_237 rfl)
theorem pd_1 : (parseMethodDescriptor "(LKindGrids$Store;LKindGrids$Notes;)V").map (fun d => d.parameters.length) = some 2 := by decide +kernel
theorem pn_KindGrids_Rows : ("KindGrids$Rows" : String) ≠ "java/lang/invoke/MethodHandle" ∧ ("KindGrids$Rows" : String) ≠ "java/lang/invoke/VarHandle" := by decide +kernel
theorem wd_X6_init : yX6_init.cls ≠ "java/lang/invoke/MethodHandle" ∧ yX6_init.cls ≠ "java/lang/invoke/VarHandle" ∧ (parseMethodDescriptor yX6_init.desc).map (fun d => d.parameters.length) = some 2 := ⟨pn_KindGrids_Rows.1, pn_KindGrids_Rows.2, pd_1⟩
theorem wi_X6_init : Cond.instanceMethod yX6_init ∈ lw_ok := (lw_okof 236 qw_236 rfl)
theorem kRX12_32 : dnLI RX12 32 2 yX6_init cX6_init 3 := ⟨(lw_okof 235 qw_235 rfl), wi_X6_init, wn_KindGrids_Rows, wc_X6_init, rfl, wd_X6_init⟩
theorem kRX12_39 : Cond.classLink RX12 39 RX11 ∈ lw_ok := (lw_okof 254 qw_254 rfl)
theorem wn_KindGrids_Wholes : Cond.initialized "KindGrids$Wholes" ∈ lw_ok := (lw_okof 110 qw_110 rfl)
theorem wc_X11_init : Cond.code yX11_init cX11_init 3 none ∈ lw_ok := (lw_okof 258 qw_258 rfl)
theorem pn_KindGrids_Wholes : ("KindGrids$Wholes" : String) ≠ "java/lang/invoke/MethodHandle" ∧ ("KindGrids$Wholes" : String) ≠ "java/lang/invoke/VarHandle" := by decide +kernel
theorem wd_X11_init : yX11_init.cls ≠ "java/lang/invoke/MethodHandle" ∧ yX11_init.cls ≠ "java/lang/invoke/VarHandle" ∧ (parseMethodDescriptor yX11_init.desc).map (fun d => d.parameters.length) = some 2 := ⟨pn_KindGrids_Wholes.1, pn_KindGrids_Wholes.2, pd_1⟩
theorem wi_X11_init : Cond.instanceMethod yX11_init ∈ lw_ok := (lw_okof 257 qw_257 rfl)
theorem kRX12_41 : dnLI RX12 41 2 yX11_init cX11_init 3 := ⟨(lw_okof 256 qw_256 rfl), wi_X11_init, wn_KindGrids_Wholes, wc_X11_init, rfl, wd_X11_init⟩
theorem kRX12_46 : Cond.classLink RX12 46 RX10 ∈ lw_ok := (lw_okof 267 qw_267 rfl)
theorem wn_KindGrids_Sums : Cond.initialized "KindGrids$Sums" ∈ lw_ok := (lw_okof 111 qw_111 rfl)
theorem wc_X10_init : Cond.code yX10_init cX10_init 3 none ∈ lw_ok := (lw_okof 271 qw_271 rfl)
theorem pn_KindGrids_Sums : ("KindGrids$Sums" : String) ≠ "java/lang/invoke/MethodHandle" ∧ ("KindGrids$Sums" : String) ≠ "java/lang/invoke/VarHandle" := by decide +kernel
theorem wd_X10_init : yX10_init.cls ≠ "java/lang/invoke/MethodHandle" ∧ yX10_init.cls ≠ "java/lang/invoke/VarHandle" ∧ (parseMethodDescriptor yX10_init.desc).map (fun d => d.parameters.length) = some 2 := ⟨pn_KindGrids_Sums.1, pn_KindGrids_Sums.2, pd_1⟩
theorem wi_X10_init : Cond.instanceMethod yX10_init ∈ lw_ok := (lw_okof 270 qw_270 rfl)
theorem kRX12_48 : dnLI RX12 48 2 yX10_init cX10_init 3 := ⟨(lw_okof 269 qw_269 rfl), wi_X10_init, wn_KindGrids_Sums, wc_X10_init, rfl, wd_X10_init⟩
theorem kRX12_53 : Cond.classLink RX12 53 RX7 ∈ lw_ok := (lw_okof 292 qw_292 rfl)
theorem wn_KindGrids_Searches : Cond.initialized "KindGrids$Searches" ∈ lw_ok := (lw_okof 112 qw_112 rfl)
theorem wc_X7_init : Cond.code yX7_init cX7_init 3 none ∈ lw_ok := (lw_okof 296 qw_296 rfl)
theorem pn_KindGrids_Searches : ("KindGrids$Searches" : String) ≠ "java/lang/invoke/MethodHandle" ∧ ("KindGrids$Searches" : String) ≠ "java/lang/invoke/VarHandle" := by decide +kernel
theorem wd_X7_init : yX7_init.cls ≠ "java/lang/invoke/MethodHandle" ∧ yX7_init.cls ≠ "java/lang/invoke/VarHandle" ∧ (parseMethodDescriptor yX7_init.desc).map (fun d => d.parameters.length) = some 2 := ⟨pn_KindGrids_Searches.1, pn_KindGrids_Searches.2, pd_1⟩
theorem wi_X7_init : Cond.instanceMethod yX7_init ∈ lw_ok := (lw_okof 295 qw_295 rfl)
theorem kRX12_55 : dnLI RX12 55 2 yX7_init cX7_init 3 := ⟨(lw_okof 294 qw_294 rfl), wi_X7_init, wn_KindGrids_Searches, wc_X7_init, rfl, wd_X7_init⟩
theorem kRX12_60 : Cond.classLink RX12 60 RX4 ∈ lw_ok := (lw_okof 320 qw_320 rfl)
theorem wn_KindGrids_Regions : Cond.initialized "KindGrids$Regions" ∈ lw_ok := (lw_okof 113 qw_113 rfl)
theorem wc_X4_init : Cond.code yX4_init cX4_init 3 none ∈ lw_ok := (lw_okof 324 qw_324 rfl)
theorem pn_KindGrids_Regions : ("KindGrids$Regions" : String) ≠ "java/lang/invoke/MethodHandle" ∧ ("KindGrids$Regions" : String) ≠ "java/lang/invoke/VarHandle" := by decide +kernel
theorem wd_X4_init : yX4_init.cls ≠ "java/lang/invoke/MethodHandle" ∧ yX4_init.cls ≠ "java/lang/invoke/VarHandle" ∧ (parseMethodDescriptor yX4_init.desc).map (fun d => d.parameters.length) = some 2 := ⟨pn_KindGrids_Regions.1, pn_KindGrids_Regions.2, pd_1⟩
theorem wi_X4_init : Cond.instanceMethod yX4_init ∈ lw_ok := (lw_okof 323 qw_323 rfl)
theorem kRX12_62 : dnLI RX12 62 2 yX4_init cX4_init 3 := ⟨(lw_okof 322 qw_322 rfl), wi_X4_init, wn_KindGrids_Regions, wc_X4_init, rfl, wd_X4_init⟩
theorem kRX12_67 : Cond.classLink RX12 67 RX3 ∈ lw_ok := (lw_okof 347 qw_347 rfl)
theorem wn_KindGrids_PlanText : Cond.initialized "KindGrids$PlanText" ∈ lw_ok := (lw_okof 114 qw_114 rfl)
theorem wc_X3_init : Cond.code yX3_init cX3_init 1 none ∈ lw_ok := (lw_okof 351 qw_351 rfl)
theorem pn_KindGrids_PlanText : ("KindGrids$PlanText" : String) ≠ "java/lang/invoke/MethodHandle" ∧ ("KindGrids$PlanText" : String) ≠ "java/lang/invoke/VarHandle" := by decide +kernel
theorem wd_X3_init : yX3_init.cls ≠ "java/lang/invoke/MethodHandle" ∧ yX3_init.cls ≠ "java/lang/invoke/VarHandle" ∧ (parseMethodDescriptor yX3_init.desc).map (fun d => d.parameters.length) = some 0 := ⟨pn_KindGrids_PlanText.1, pn_KindGrids_PlanText.2, pd_0⟩
theorem wi_X3_init : Cond.instanceMethod yX3_init ∈ lw_ok := (lw_okof 350 qw_350 rfl)
theorem kRX12_69 : dnLIN RX12 RX12 69 0 yX3_init cX3_init 1 := ⟨(lw_nestof 349 qw_349 rfl), wi_X3_init, wn_KindGrids_PlanText, wc_X3_init, rfl, wd_X3_init⟩
theorem kRX12_74 : Cond.classLink RX12 74 RX1 ∈ lw_ok := (lw_okof 368 qw_368 rfl)
theorem wn_KindGrids_Guesses : Cond.initialized "KindGrids$Guesses" ∈ lw_ok := (lw_okof 115 qw_115 rfl)
theorem wc_X1_init : Cond.code yX1_init cX1_init 2 none ∈ lw_ok := (lw_okof 372 qw_372 rfl)
theorem pd_2 : (parseMethodDescriptor "(LKindGrids$Notes;)V").map (fun d => d.parameters.length) = some 1 := by decide +kernel
theorem pn_KindGrids_Guesses : ("KindGrids$Guesses" : String) ≠ "java/lang/invoke/MethodHandle" ∧ ("KindGrids$Guesses" : String) ≠ "java/lang/invoke/VarHandle" := by decide +kernel
theorem wd_X1_init : yX1_init.cls ≠ "java/lang/invoke/MethodHandle" ∧ yX1_init.cls ≠ "java/lang/invoke/VarHandle" ∧ (parseMethodDescriptor yX1_init.desc).map (fun d => d.parameters.length) = some 1 := ⟨pn_KindGrids_Guesses.1, pn_KindGrids_Guesses.2, pd_2⟩
theorem wi_X1_init : Cond.instanceMethod yX1_init ∈ lw_ok := (lw_okof 371 qw_371 rfl)
theorem kRX12_76 : dnLI RX12 76 1 yX1_init cX1_init 2 := ⟨(lw_okof 370 qw_370 rfl), wi_X1_init, wn_KindGrids_Guesses, wc_X1_init, rfl, wd_X1_init⟩
theorem wc_X9_newGrid : Cond.code yX9_newGrid cX9_newGrid 3 (some .int) ∈ lw_ok := (lw_okof 431 qw_431 rfl)
theorem pd_3 : (parseMethodDescriptor "(II)I").map (fun d => d.parameters.length) = some 2 := by decide +kernel
theorem wd_X9_newGrid : yX9_newGrid.cls ≠ "java/lang/invoke/MethodHandle" ∧ yX9_newGrid.cls ≠ "java/lang/invoke/VarHandle" ∧ (parseMethodDescriptor yX9_newGrid.desc).map (fun d => d.parameters.length) = some 2 := ⟨pn_KindGrids_Store.1, pn_KindGrids_Store.2, pd_3⟩
theorem wi_X9_newGrid : Cond.instanceMethod yX9_newGrid ∈ lw_ok := (lw_okof 429 qw_429 rfl)
theorem ws_X9_newGrid : Cond.selects yX9_newGrid.cls yX9_newGrid yX9_newGrid ∈ lw_ok := (lw_okof 430 qw_430 rfl)
theorem kRX12_87 : dnLV RX12 87 2 7 yX9_newGrid cX9_newGrid 3 (some .int) := ⟨(lw_okof 428 qw_428 rfl), wi_X9_newGrid, ws_X9_newGrid, wn_KindGrids_Store, wc_X9_newGrid, wd_X9_newGrid, by decide, _, rfl, rfl⟩
theorem wn_KindGrids : Cond.initialized "KindGrids" ∈ lw_ok := (lw_okof 104 qw_104 rfl)
theorem wc_X12_tally : Cond.code yX12_tally cX12_tally 2 (some .int) ∈ lw_ok := (lw_okof 446 qw_446 rfl)
theorem pd_4 : (parseMethodDescriptor "(I)I").map (fun d => d.parameters.length) = some 1 := by decide +kernel
theorem pn_KindGrids : ("KindGrids" : String) ≠ "java/lang/invoke/MethodHandle" ∧ ("KindGrids" : String) ≠ "java/lang/invoke/VarHandle" := by decide +kernel
theorem wd_X12_tally : yX12_tally.cls ≠ "java/lang/invoke/MethodHandle" ∧ yX12_tally.cls ≠ "java/lang/invoke/VarHandle" ∧ (parseMethodDescriptor yX12_tally.desc).map (fun d => d.parameters.length) = some 1 := ⟨pn_KindGrids.1, pn_KindGrids.2, pd_4⟩
theorem wi_X12_tally : Cond.instanceMethod yX12_tally ∈ lw_ok := (lw_okof 445 qw_445 rfl)
theorem ws_X12_tally : Cond.selects yX12_tally.cls yX12_tally yX12_tally ∈ lw_ok := (lw_okof 0 qw_0 rfl)
theorem kRX12_91 : dnLV RX12 91 1 10 yX12_tally cX12_tally 2 (some .int) := ⟨(lw_okof 443 qw_443 rfl), wi_X12_tally, ws_X12_tally, wn_KindGrids, wc_X12_tally, wd_X12_tally, by decide, _, rfl, rfl⟩
theorem wc_X9_removeGrid : Cond.code yX9_removeGrid cX9_removeGrid 4 (some .int) ∈ lw_ok := (lw_okof 454 qw_454 rfl)
theorem wd_X9_removeGrid : yX9_removeGrid.cls ≠ "java/lang/invoke/MethodHandle" ∧ yX9_removeGrid.cls ≠ "java/lang/invoke/VarHandle" ∧ (parseMethodDescriptor yX9_removeGrid.desc).map (fun d => d.parameters.length) = some 1 := ⟨pn_KindGrids_Store.1, pn_KindGrids_Store.2, pd_4⟩
theorem wi_X9_removeGrid : Cond.instanceMethod yX9_removeGrid ∈ lw_ok := (lw_okof 452 qw_452 rfl)
theorem ws_X9_removeGrid : Cond.selects yX9_removeGrid.cls yX9_removeGrid yX9_removeGrid ∈ lw_ok := (lw_okof 453 qw_453 rfl)
theorem kRX12_95 : dnLV RX12 95 1 7 yX9_removeGrid cX9_removeGrid 4 (some .int) := ⟨(lw_okof 451 qw_451 rfl), wi_X9_removeGrid, ws_X9_removeGrid, wn_KindGrids_Store, wc_X9_removeGrid, wd_X9_removeGrid, by decide, _, rfl, rfl⟩
theorem wc_X9_newRow : Cond.code yX9_newRow cX9_newRow 6 (some .int) ∈ lw_ok := (lw_okof 466 qw_466 rfl)
theorem pd_5 : (parseMethodDescriptor "(IIII)I").map (fun d => d.parameters.length) = some 4 := by decide +kernel
theorem wd_X9_newRow : yX9_newRow.cls ≠ "java/lang/invoke/MethodHandle" ∧ yX9_newRow.cls ≠ "java/lang/invoke/VarHandle" ∧ (parseMethodDescriptor yX9_newRow.desc).map (fun d => d.parameters.length) = some 4 := ⟨pn_KindGrids_Store.1, pn_KindGrids_Store.2, pd_5⟩
theorem wi_X9_newRow : Cond.instanceMethod yX9_newRow ∈ lw_ok := (lw_okof 464 qw_464 rfl)
theorem ws_X9_newRow : Cond.selects yX9_newRow.cls yX9_newRow yX9_newRow ∈ lw_ok := (lw_okof 465 qw_465 rfl)
theorem kRX12_98 : dnLV RX12 98 4 7 yX9_newRow cX9_newRow 6 (some .int) := ⟨(lw_okof 463 qw_463 rfl), wi_X9_newRow, ws_X9_newRow, wn_KindGrids_Store, wc_X9_newRow, wd_X9_newRow, by decide, _, rfl, rfl⟩
theorem wc_X9_setThing : Cond.code yX9_setThing cX9_setThing 5 (some .int) ∈ lw_ok := (lw_okof 508 qw_508 rfl)
theorem pd_6 : (parseMethodDescriptor "(III)I").map (fun d => d.parameters.length) = some 3 := by decide +kernel
theorem wd_X9_setThing : yX9_setThing.cls ≠ "java/lang/invoke/MethodHandle" ∧ yX9_setThing.cls ≠ "java/lang/invoke/VarHandle" ∧ (parseMethodDescriptor yX9_setThing.desc).map (fun d => d.parameters.length) = some 3 := ⟨pn_KindGrids_Store.1, pn_KindGrids_Store.2, pd_6⟩
theorem wi_X9_setThing : Cond.instanceMethod yX9_setThing ∈ lw_ok := (lw_okof 506 qw_506 rfl)
theorem ws_X9_setThing : Cond.selects yX9_setThing.cls yX9_setThing yX9_setThing ∈ lw_ok := (lw_okof 507 qw_507 rfl)
theorem kRX12_102 : dnLV RX12 102 3 7 yX9_setThing cX9_setThing 5 (some .int) := ⟨(lw_okof 505 qw_505 rfl), wi_X9_setThing, ws_X9_setThing, wn_KindGrids_Store, wc_X9_setThing, wd_X9_setThing, by decide, _, rfl, rfl⟩
theorem wc_X9_shareContent : Cond.code yX9_shareContent cX9_shareContent 6 (some .int) ∈ lw_ok := (lw_okof 516 qw_516 rfl)
theorem wd_X9_shareContent : yX9_shareContent.cls ≠ "java/lang/invoke/MethodHandle" ∧ yX9_shareContent.cls ≠ "java/lang/invoke/VarHandle" ∧ (parseMethodDescriptor yX9_shareContent.desc).map (fun d => d.parameters.length) = some 4 := ⟨pn_KindGrids_Store.1, pn_KindGrids_Store.2, pd_5⟩
theorem wi_X9_shareContent : Cond.instanceMethod yX9_shareContent ∈ lw_ok := (lw_okof 514 qw_514 rfl)
theorem ws_X9_shareContent : Cond.selects yX9_shareContent.cls yX9_shareContent yX9_shareContent ∈ lw_ok := (lw_okof 515 qw_515 rfl)
theorem kRX12_106 : dnLV RX12 106 4 7 yX9_shareContent cX9_shareContent 6 (some .int) := ⟨(lw_okof 513 qw_513 rfl), wi_X9_shareContent, ws_X9_shareContent, wn_KindGrids_Store, wc_X9_shareContent, wd_X9_shareContent, by decide, _, rfl, rfl⟩
theorem wc_X9_exchange : Cond.code yX9_exchange cX9_exchange 7 (some .int) ∈ lw_ok := (lw_okof 536 qw_536 rfl)
theorem wd_X9_exchange : yX9_exchange.cls ≠ "java/lang/invoke/MethodHandle" ∧ yX9_exchange.cls ≠ "java/lang/invoke/VarHandle" ∧ (parseMethodDescriptor yX9_exchange.desc).map (fun d => d.parameters.length) = some 4 := ⟨pn_KindGrids_Store.1, pn_KindGrids_Store.2, pd_5⟩
theorem wi_X9_exchange : Cond.instanceMethod yX9_exchange ∈ lw_ok := (lw_okof 534 qw_534 rfl)
theorem ws_X9_exchange : Cond.selects yX9_exchange.cls yX9_exchange yX9_exchange ∈ lw_ok := (lw_okof 535 qw_535 rfl)
theorem kRX12_109 : dnLV RX12 109 4 7 yX9_exchange cX9_exchange 7 (some .int) := ⟨(lw_okof 533 qw_533 rfl), wi_X9_exchange, ws_X9_exchange, wn_KindGrids_Store, wc_X9_exchange, wd_X9_exchange, by decide, _, rfl, rfl⟩
theorem wc_X9_contentOf : Cond.code yX9_contentOf cX9_contentOf 5 (some .int) ∈ lw_ok := (lw_okof 524 qw_524 rfl)
theorem wd_X9_contentOf : yX9_contentOf.cls ≠ "java/lang/invoke/MethodHandle" ∧ yX9_contentOf.cls ≠ "java/lang/invoke/VarHandle" ∧ (parseMethodDescriptor yX9_contentOf.desc).map (fun d => d.parameters.length) = some 2 := ⟨pn_KindGrids_Store.1, pn_KindGrids_Store.2, pd_3⟩
theorem wi_X9_contentOf : Cond.instanceMethod yX9_contentOf ∈ lw_ok := (lw_okof 522 qw_522 rfl)
theorem ws_X9_contentOf : Cond.selects yX9_contentOf.cls yX9_contentOf yX9_contentOf ∈ lw_ok := (lw_okof 523 qw_523 rfl)
theorem kRX12_112 : dnLV RX12 112 2 7 yX9_contentOf cX9_contentOf 5 (some .int) := ⟨(lw_okof 541 qw_541 rfl), wi_X9_contentOf, ws_X9_contentOf, wn_KindGrids_Store, wc_X9_contentOf, wd_X9_contentOf, by decide, _, rfl, rfl⟩
theorem wc_X9_holdSameRow : Cond.code yX9_holdSameRow cX9_holdSameRow 7 (some .int) ∈ lw_ok := (lw_okof 549 qw_549 rfl)
theorem wd_X9_holdSameRow : yX9_holdSameRow.cls ≠ "java/lang/invoke/MethodHandle" ∧ yX9_holdSameRow.cls ≠ "java/lang/invoke/VarHandle" ∧ (parseMethodDescriptor yX9_holdSameRow.desc).map (fun d => d.parameters.length) = some 4 := ⟨pn_KindGrids_Store.1, pn_KindGrids_Store.2, pd_5⟩
theorem wi_X9_holdSameRow : Cond.instanceMethod yX9_holdSameRow ∈ lw_ok := (lw_okof 547 qw_547 rfl)
theorem ws_X9_holdSameRow : Cond.selects yX9_holdSameRow.cls yX9_holdSameRow yX9_holdSameRow ∈ lw_ok := (lw_okof 548 qw_548 rfl)
theorem kRX12_115 : dnLV RX12 115 4 7 yX9_holdSameRow cX9_holdSameRow 7 (some .int) := ⟨(lw_okof 546 qw_546 rfl), wi_X9_holdSameRow, ws_X9_holdSameRow, wn_KindGrids_Store, wc_X9_holdSameRow, wd_X9_holdSameRow, by decide, _, rfl, rfl⟩
theorem wc_X9_lengthOf : Cond.code yX9_lengthOf cX9_lengthOf 4 (some .int) ∈ lw_ok := (lw_okof 561 qw_561 rfl)
theorem wd_X9_lengthOf : yX9_lengthOf.cls ≠ "java/lang/invoke/MethodHandle" ∧ yX9_lengthOf.cls ≠ "java/lang/invoke/VarHandle" ∧ (parseMethodDescriptor yX9_lengthOf.desc).map (fun d => d.parameters.length) = some 2 := ⟨pn_KindGrids_Store.1, pn_KindGrids_Store.2, pd_3⟩
theorem wi_X9_lengthOf : Cond.instanceMethod yX9_lengthOf ∈ lw_ok := (lw_okof 559 qw_559 rfl)
theorem ws_X9_lengthOf : Cond.selects yX9_lengthOf.cls yX9_lengthOf yX9_lengthOf ∈ lw_ok := (lw_okof 560 qw_560 rfl)
theorem kRX12_118 : dnLV RX12 118 2 7 yX9_lengthOf cX9_lengthOf 4 (some .int) := ⟨(lw_okof 558 qw_558 rfl), wi_X9_lengthOf, ws_X9_lengthOf, wn_KindGrids_Store, wc_X9_lengthOf, wd_X9_lengthOf, by decide, _, rfl, rfl⟩
theorem wc_X6_readCell : Cond.code yX6_readCell cX6_readCell 6 (some .int) ∈ lw_ok := (lw_okof 569 qw_569 rfl)
theorem wd_X6_readCell : yX6_readCell.cls ≠ "java/lang/invoke/MethodHandle" ∧ yX6_readCell.cls ≠ "java/lang/invoke/VarHandle" ∧ (parseMethodDescriptor yX6_readCell.desc).map (fun d => d.parameters.length) = some 4 := ⟨pn_KindGrids_Rows.1, pn_KindGrids_Rows.2, pd_5⟩
theorem wi_X6_readCell : Cond.instanceMethod yX6_readCell ∈ lw_ok := (lw_okof 567 qw_567 rfl)
theorem ws_X6_readCell : Cond.selects yX6_readCell.cls yX6_readCell yX6_readCell ∈ lw_ok := (lw_okof 568 qw_568 rfl)
theorem kRX12_121 : dnLV RX12 121 4 5 yX6_readCell cX6_readCell 6 (some .int) := ⟨(lw_okof 566 qw_566 rfl), wi_X6_readCell, ws_X6_readCell, wn_KindGrids_Rows, wc_X6_readCell, wd_X6_readCell, by decide, _, rfl, rfl⟩
theorem wc_X6_writeCell : Cond.code yX6_writeCell cX6_writeCell 8 (some .int) ∈ lw_ok := (lw_okof 621 qw_621 rfl)
theorem pd_7 : (parseMethodDescriptor "(IIIIJ)I").map (fun d => d.parameters.length) = some 5 := by decide +kernel
theorem wd_X6_writeCell : yX6_writeCell.cls ≠ "java/lang/invoke/MethodHandle" ∧ yX6_writeCell.cls ≠ "java/lang/invoke/VarHandle" ∧ (parseMethodDescriptor yX6_writeCell.desc).map (fun d => d.parameters.length) = some 5 := ⟨pn_KindGrids_Rows.1, pn_KindGrids_Rows.2, pd_7⟩
theorem wi_X6_writeCell : Cond.instanceMethod yX6_writeCell ∈ lw_ok := (lw_okof 619 qw_619 rfl)
theorem ws_X6_writeCell : Cond.selects yX6_writeCell.cls yX6_writeCell yX6_writeCell ∈ lw_ok := (lw_okof 620 qw_620 rfl)
theorem kRX12_124 : dnLV RX12 124 5 5 yX6_writeCell cX6_writeCell 8 (some .int) := ⟨(lw_okof 618 qw_618 rfl), wi_X6_writeCell, ws_X6_writeCell, wn_KindGrids_Rows, wc_X6_writeCell, wd_X6_writeCell, by decide, _, rfl, rfl⟩
theorem wc_X6_putCell : Cond.code yX6_putCell cX6_putCell 8 (some .int) ∈ lw_ok := (lw_okof 626 qw_626 rfl)
theorem wd_X6_putCell : yX6_putCell.cls ≠ "java/lang/invoke/MethodHandle" ∧ yX6_putCell.cls ≠ "java/lang/invoke/VarHandle" ∧ (parseMethodDescriptor yX6_putCell.desc).map (fun d => d.parameters.length) = some 5 := ⟨pn_KindGrids_Rows.1, pn_KindGrids_Rows.2, pd_7⟩
theorem wi_X6_putCell : Cond.instanceMethod yX6_putCell ∈ lw_ok := (lw_okof 624 qw_624 rfl)
theorem ws_X6_putCell : Cond.selects yX6_putCell.cls yX6_putCell yX6_putCell ∈ lw_ok := (lw_okof 625 qw_625 rfl)
theorem kRX12_128 : dnLV RX12 128 5 5 yX6_putCell cX6_putCell 8 (some .int) := ⟨(lw_okof 645 qw_645 rfl), wi_X6_putCell, ws_X6_putCell, wn_KindGrids_Rows, wc_X6_putCell, wd_X6_putCell, by decide, _, rfl, rfl⟩
theorem wc_X6_findValue : Cond.code yX6_findValue cX6_findValue 8 (some .int) ∈ lw_ok := (lw_okof 653 qw_653 rfl)
theorem pd_8 : (parseMethodDescriptor "(IIIJ)I").map (fun d => d.parameters.length) = some 4 := by decide +kernel
theorem wd_X6_findValue : yX6_findValue.cls ≠ "java/lang/invoke/MethodHandle" ∧ yX6_findValue.cls ≠ "java/lang/invoke/VarHandle" ∧ (parseMethodDescriptor yX6_findValue.desc).map (fun d => d.parameters.length) = some 4 := ⟨pn_KindGrids_Rows.1, pn_KindGrids_Rows.2, pd_8⟩
theorem wi_X6_findValue : Cond.instanceMethod yX6_findValue ∈ lw_ok := (lw_okof 651 qw_651 rfl)
theorem ws_X6_findValue : Cond.selects yX6_findValue.cls yX6_findValue yX6_findValue ∈ lw_ok := (lw_okof 652 qw_652 rfl)
theorem kRX12_131 : dnLV RX12 131 4 5 yX6_findValue cX6_findValue 8 (some .int) := ⟨(lw_okof 650 qw_650 rfl), wi_X6_findValue, ws_X6_findValue, wn_KindGrids_Rows, wc_X6_findValue, wd_X6_findValue, by decide, _, rfl, rfl⟩
theorem wc_X6_countMatches : Cond.code yX6_countMatches cX6_countMatches 9 (some .int) ∈ lw_ok := (lw_okof 668 qw_668 rfl)
theorem wd_X6_countMatches : yX6_countMatches.cls ≠ "java/lang/invoke/MethodHandle" ∧ yX6_countMatches.cls ≠ "java/lang/invoke/VarHandle" ∧ (parseMethodDescriptor yX6_countMatches.desc).map (fun d => d.parameters.length) = some 4 := ⟨pn_KindGrids_Rows.1, pn_KindGrids_Rows.2, pd_5⟩
theorem wi_X6_countMatches : Cond.instanceMethod yX6_countMatches ∈ lw_ok := (lw_okof 666 qw_666 rfl)
theorem ws_X6_countMatches : Cond.selects yX6_countMatches.cls yX6_countMatches yX6_countMatches ∈ lw_ok := (lw_okof 667 qw_667 rfl)
theorem kRX12_135 : dnLV RX12 135 4 5 yX6_countMatches cX6_countMatches 9 (some .int) := ⟨(lw_okof 665 qw_665 rfl), wi_X6_countMatches, ws_X6_countMatches, wn_KindGrids_Rows, wc_X6_countMatches, wd_X6_countMatches, by decide, _, rfl, rfl⟩
theorem wc_X6_cutOut : Cond.code yX6_cutOut cX6_cutOut 8 (some .int) ∈ lw_ok := (lw_okof 676 qw_676 rfl)
theorem pd_9 : (parseMethodDescriptor "(IIIII)I").map (fun d => d.parameters.length) = some 5 := by decide +kernel
theorem wd_X6_cutOut : yX6_cutOut.cls ≠ "java/lang/invoke/MethodHandle" ∧ yX6_cutOut.cls ≠ "java/lang/invoke/VarHandle" ∧ (parseMethodDescriptor yX6_cutOut.desc).map (fun d => d.parameters.length) = some 5 := ⟨pn_KindGrids_Rows.1, pn_KindGrids_Rows.2, pd_9⟩
theorem wi_X6_cutOut : Cond.instanceMethod yX6_cutOut ∈ lw_ok := (lw_okof 674 qw_674 rfl)
theorem ws_X6_cutOut : Cond.selects yX6_cutOut.cls yX6_cutOut yX6_cutOut ∈ lw_ok := (lw_okof 675 qw_675 rfl)
theorem kRX12_138 : dnLV RX12 138 5 5 yX6_cutOut cX6_cutOut 8 (some .int) := ⟨(lw_okof 673 qw_673 rfl), wi_X6_cutOut, ws_X6_cutOut, wn_KindGrids_Rows, wc_X6_cutOut, wd_X6_cutOut, by decide, _, rfl, rfl⟩
theorem wc_X6_castRow : Cond.code yX6_castRow cX6_castRow 7 (some .int) ∈ lw_ok := (lw_okof 690 qw_690 rfl)
theorem wd_X6_castRow : yX6_castRow.cls ≠ "java/lang/invoke/MethodHandle" ∧ yX6_castRow.cls ≠ "java/lang/invoke/VarHandle" ∧ (parseMethodDescriptor yX6_castRow.desc).map (fun d => d.parameters.length) = some 3 := ⟨pn_KindGrids_Rows.1, pn_KindGrids_Rows.2, pd_6⟩
theorem wi_X6_castRow : Cond.instanceMethod yX6_castRow ∈ lw_ok := (lw_okof 688 qw_688 rfl)
theorem ws_X6_castRow : Cond.selects yX6_castRow.cls yX6_castRow yX6_castRow ∈ lw_ok := (lw_okof 689 qw_689 rfl)
theorem kRX12_142 : dnLV RX12 142 3 5 yX6_castRow cX6_castRow 7 (some .int) := ⟨(lw_okof 687 qw_687 rfl), wi_X6_castRow, ws_X6_castRow, wn_KindGrids_Rows, wc_X6_castRow, wd_X6_castRow, by decide, _, rfl, rfl⟩
theorem wc_X6_pourInto : Cond.code yX6_pourInto cX6_pourInto 9 (some .int) ∈ lw_ok := (lw_okof 699 qw_699 rfl)
theorem wd_X6_pourInto : yX6_pourInto.cls ≠ "java/lang/invoke/MethodHandle" ∧ yX6_pourInto.cls ≠ "java/lang/invoke/VarHandle" ∧ (parseMethodDescriptor yX6_pourInto.desc).map (fun d => d.parameters.length) = some 4 := ⟨pn_KindGrids_Rows.1, pn_KindGrids_Rows.2, pd_5⟩
theorem wi_X6_pourInto : Cond.instanceMethod yX6_pourInto ∈ lw_ok := (lw_okof 697 qw_697 rfl)
theorem ws_X6_pourInto : Cond.selects yX6_pourInto.cls yX6_pourInto yX6_pourInto ∈ lw_ok := (lw_okof 698 qw_698 rfl)
theorem kRX12_145 : dnLV RX12 145 4 5 yX6_pourInto cX6_pourInto 9 (some .int) := ⟨(lw_okof 696 qw_696 rfl), wi_X6_pourInto, ws_X6_pourInto, wn_KindGrids_Rows, wc_X6_pourInto, wd_X6_pourInto, by decide, _, rfl, rfl⟩
theorem wc_X6_joinRows : Cond.code yX6_joinRows cX6_joinRows 7 (some .int) ∈ lw_ok := (lw_okof 707 qw_707 rfl)
theorem wd_X6_joinRows : yX6_joinRows.cls ≠ "java/lang/invoke/MethodHandle" ∧ yX6_joinRows.cls ≠ "java/lang/invoke/VarHandle" ∧ (parseMethodDescriptor yX6_joinRows.desc).map (fun d => d.parameters.length) = some 3 := ⟨pn_KindGrids_Rows.1, pn_KindGrids_Rows.2, pd_6⟩
theorem wi_X6_joinRows : Cond.instanceMethod yX6_joinRows ∈ lw_ok := (lw_okof 705 qw_705 rfl)
theorem ws_X6_joinRows : Cond.selects yX6_joinRows.cls yX6_joinRows yX6_joinRows ∈ lw_ok := (lw_okof 706 qw_706 rfl)
theorem kRX12_148 : dnLV RX12 148 3 5 yX6_joinRows cX6_joinRows 7 (some .int) := ⟨(lw_okof 704 qw_704 rfl), wi_X6_joinRows, ws_X6_joinRows, wn_KindGrids_Rows, wc_X6_joinRows, wd_X6_joinRows, by decide, _, rfl, rfl⟩
theorem wc_X6_reverse : Cond.code yX6_reverse cX6_reverse 5 (some .int) ∈ lw_ok := (lw_okof 718 qw_718 rfl)
theorem wd_X6_reverse : yX6_reverse.cls ≠ "java/lang/invoke/MethodHandle" ∧ yX6_reverse.cls ≠ "java/lang/invoke/VarHandle" ∧ (parseMethodDescriptor yX6_reverse.desc).map (fun d => d.parameters.length) = some 2 := ⟨pn_KindGrids_Rows.1, pn_KindGrids_Rows.2, pd_3⟩
theorem wi_X6_reverse : Cond.instanceMethod yX6_reverse ∈ lw_ok := (lw_okof 716 qw_716 rfl)
theorem ws_X6_reverse : Cond.selects yX6_reverse.cls yX6_reverse yX6_reverse ∈ lw_ok := (lw_okof 717 qw_717 rfl)
theorem kRX12_151 : dnLV RX12 151 2 5 yX6_reverse cX6_reverse 5 (some .int) := ⟨(lw_okof 715 qw_715 rfl), wi_X6_reverse, ws_X6_reverse, wn_KindGrids_Rows, wc_X6_reverse, wd_X6_reverse, by decide, _, rfl, rfl⟩
theorem wc_X6_rotate : Cond.code yX6_rotate cX6_rotate 6 (some .int) ∈ lw_ok := (lw_okof 733 qw_733 rfl)
theorem wd_X6_rotate : yX6_rotate.cls ≠ "java/lang/invoke/MethodHandle" ∧ yX6_rotate.cls ≠ "java/lang/invoke/VarHandle" ∧ (parseMethodDescriptor yX6_rotate.desc).map (fun d => d.parameters.length) = some 3 := ⟨pn_KindGrids_Rows.1, pn_KindGrids_Rows.2, pd_6⟩
theorem wi_X6_rotate : Cond.instanceMethod yX6_rotate ∈ lw_ok := (lw_okof 731 qw_731 rfl)
theorem ws_X6_rotate : Cond.selects yX6_rotate.cls yX6_rotate yX6_rotate ∈ lw_ok := (lw_okof 732 qw_732 rfl)
theorem kRX12_154 : dnLV RX12 154 3 5 yX6_rotate cX6_rotate 6 (some .int) := ⟨(lw_okof 730 qw_730 rfl), wi_X6_rotate, ws_X6_rotate, wn_KindGrids_Rows, wc_X6_rotate, wd_X6_rotate, by decide, _, rfl, rfl⟩
theorem wc_X6_sortRow : Cond.code yX6_sortRow cX6_sortRow 6 (some .int) ∈ lw_ok := (lw_okof 744 qw_744 rfl)
theorem wd_X6_sortRow : yX6_sortRow.cls ≠ "java/lang/invoke/MethodHandle" ∧ yX6_sortRow.cls ≠ "java/lang/invoke/VarHandle" ∧ (parseMethodDescriptor yX6_sortRow.desc).map (fun d => d.parameters.length) = some 2 := ⟨pn_KindGrids_Rows.1, pn_KindGrids_Rows.2, pd_3⟩
theorem wi_X6_sortRow : Cond.instanceMethod yX6_sortRow ∈ lw_ok := (lw_okof 742 qw_742 rfl)
theorem ws_X6_sortRow : Cond.selects yX6_sortRow.cls yX6_sortRow yX6_sortRow ∈ lw_ok := (lw_okof 743 qw_743 rfl)
theorem kRX12_157 : dnLV RX12 157 2 5 yX6_sortRow cX6_sortRow 6 (some .int) := ⟨(lw_okof 741 qw_741 rfl), wi_X6_sortRow, ws_X6_sortRow, wn_KindGrids_Rows, wc_X6_sortRow, wd_X6_sortRow, by decide, _, rfl, rfl⟩
theorem wc_X6_increase : Cond.code yX6_increase cX6_increase 7 (some .int) ∈ lw_ok := (lw_okof 760 qw_760 rfl)
theorem wd_X6_increase : yX6_increase.cls ≠ "java/lang/invoke/MethodHandle" ∧ yX6_increase.cls ≠ "java/lang/invoke/VarHandle" ∧ (parseMethodDescriptor yX6_increase.desc).map (fun d => d.parameters.length) = some 4 := ⟨pn_KindGrids_Rows.1, pn_KindGrids_Rows.2, pd_5⟩
theorem wi_X6_increase : Cond.instanceMethod yX6_increase ∈ lw_ok := (lw_okof 758 qw_758 rfl)
theorem ws_X6_increase : Cond.selects yX6_increase.cls yX6_increase yX6_increase ∈ lw_ok := (lw_okof 759 qw_759 rfl)
theorem kRX12_160 : dnLV RX12 160 4 5 yX6_increase cX6_increase 7 (some .int) := ⟨(lw_okof 757 qw_757 rfl), wi_X6_increase, ws_X6_increase, wn_KindGrids_Rows, wc_X6_increase, wd_X6_increase, by decide, _, rfl, rfl⟩
theorem wc_X6_markGreater : Cond.code yX6_markGreater cX6_markGreater 11 (some .int) ∈ lw_ok := (lw_okof 770 qw_770 rfl)
theorem pd_10 : (parseMethodDescriptor "(IIIJI)I").map (fun d => d.parameters.length) = some 5 := by decide +kernel
theorem wd_X6_markGreater : yX6_markGreater.cls ≠ "java/lang/invoke/MethodHandle" ∧ yX6_markGreater.cls ≠ "java/lang/invoke/VarHandle" ∧ (parseMethodDescriptor yX6_markGreater.desc).map (fun d => d.parameters.length) = some 5 := ⟨pn_KindGrids_Rows.1, pn_KindGrids_Rows.2, pd_10⟩
theorem wi_X6_markGreater : Cond.instanceMethod yX6_markGreater ∈ lw_ok := (lw_okof 768 qw_768 rfl)
theorem ws_X6_markGreater : Cond.selects yX6_markGreater.cls yX6_markGreater yX6_markGreater ∈ lw_ok := (lw_okof 769 qw_769 rfl)
theorem kRX12_163 : dnLV RX12 163 5 5 yX6_markGreater cX6_markGreater 11 (some .int) := ⟨(lw_okof 767 qw_767 rfl), wi_X6_markGreater, ws_X6_markGreater, wn_KindGrids_Rows, wc_X6_markGreater, wd_X6_markGreater, by decide, _, rfl, rfl⟩
theorem wc_X6_pickTrue : Cond.code yX6_pickTrue cX6_pickTrue 10 (some .int) ∈ lw_ok := (lw_okof 783 qw_783 rfl)
theorem wd_X6_pickTrue : yX6_pickTrue.cls ≠ "java/lang/invoke/MethodHandle" ∧ yX6_pickTrue.cls ≠ "java/lang/invoke/VarHandle" ∧ (parseMethodDescriptor yX6_pickTrue.desc).map (fun d => d.parameters.length) = some 3 := ⟨pn_KindGrids_Rows.1, pn_KindGrids_Rows.2, pd_6⟩
theorem wi_X6_pickTrue : Cond.instanceMethod yX6_pickTrue ∈ lw_ok := (lw_okof 781 qw_781 rfl)
theorem ws_X6_pickTrue : Cond.selects yX6_pickTrue.cls yX6_pickTrue yX6_pickTrue ∈ lw_ok := (lw_okof 782 qw_782 rfl)
theorem kRX12_167 : dnLV RX12 167 3 5 yX6_pickTrue cX6_pickTrue 10 (some .int) := ⟨(lw_okof 780 qw_780 rfl), wi_X6_pickTrue, ws_X6_pickTrue, wn_KindGrids_Rows, wc_X6_pickTrue, wd_X6_pickTrue, by decide, _, rfl, rfl⟩
theorem wc_X11_flatten : Cond.code yX11_flatten cX11_flatten 11 (some .int) ∈ lw_ok := (lw_okof 791 qw_791 rfl)
theorem wd_X11_flatten : yX11_flatten.cls ≠ "java/lang/invoke/MethodHandle" ∧ yX11_flatten.cls ≠ "java/lang/invoke/VarHandle" ∧ (parseMethodDescriptor yX11_flatten.desc).map (fun d => d.parameters.length) = some 3 := ⟨pn_KindGrids_Wholes.1, pn_KindGrids_Wholes.2, pd_6⟩
theorem wi_X11_flatten : Cond.instanceMethod yX11_flatten ∈ lw_ok := (lw_okof 789 qw_789 rfl)
theorem ws_X11_flatten : Cond.selects yX11_flatten.cls yX11_flatten yX11_flatten ∈ lw_ok := (lw_okof 790 qw_790 rfl)
theorem kRX12_170 : dnLV RX12 170 3 9 yX11_flatten cX11_flatten 11 (some .int) := ⟨(lw_okof 788 qw_788 rfl), wi_X11_flatten, ws_X11_flatten, wn_KindGrids_Wholes, wc_X11_flatten, wd_X11_flatten, by decide, _, rfl, rfl⟩
theorem wc_X11_dealOut : Cond.code yX11_dealOut cX11_dealOut 9 (some .int) ∈ lw_ok := (lw_okof 807 qw_807 rfl)
theorem wd_X11_dealOut : yX11_dealOut.cls ≠ "java/lang/invoke/MethodHandle" ∧ yX11_dealOut.cls ≠ "java/lang/invoke/VarHandle" ∧ (parseMethodDescriptor yX11_dealOut.desc).map (fun d => d.parameters.length) = some 4 := ⟨pn_KindGrids_Wholes.1, pn_KindGrids_Wholes.2, pd_5⟩
theorem wi_X11_dealOut : Cond.instanceMethod yX11_dealOut ∈ lw_ok := (lw_okof 805 qw_805 rfl)
theorem ws_X11_dealOut : Cond.selects yX11_dealOut.cls yX11_dealOut yX11_dealOut ∈ lw_ok := (lw_okof 806 qw_806 rfl)
theorem kRX12_173 : dnLV RX12 173 4 9 yX11_dealOut cX11_dealOut 9 (some .int) := ⟨(lw_okof 804 qw_804 rfl), wi_X11_dealOut, ws_X11_dealOut, wn_KindGrids_Wholes, wc_X11_dealOut, wd_X11_dealOut, by decide, _, rfl, rfl⟩
theorem wc_X11_transpose : Cond.code yX11_transpose cX11_transpose 6 (some .int) ∈ lw_ok := (lw_okof 825 qw_825 rfl)
theorem wd_X11_transpose : yX11_transpose.cls ≠ "java/lang/invoke/MethodHandle" ∧ yX11_transpose.cls ≠ "java/lang/invoke/VarHandle" ∧ (parseMethodDescriptor yX11_transpose.desc).map (fun d => d.parameters.length) = some 2 := ⟨pn_KindGrids_Wholes.1, pn_KindGrids_Wholes.2, pd_3⟩
theorem wi_X11_transpose : Cond.instanceMethod yX11_transpose ∈ lw_ok := (lw_okof 823 qw_823 rfl)
theorem ws_X11_transpose : Cond.selects yX11_transpose.cls yX11_transpose yX11_transpose ∈ lw_ok := (lw_okof 824 qw_824 rfl)
theorem kRX12_176 : dnLV RX12 176 2 9 yX11_transpose cX11_transpose 6 (some .int) := ⟨(lw_okof 822 qw_822 rfl), wi_X11_transpose, ws_X11_transpose, wn_KindGrids_Wholes, wc_X11_transpose, wd_X11_transpose, by decide, _, rfl, rfl⟩
theorem wc_X11_multiply : Cond.code yX11_multiply cX11_multiply 8 (some .int) ∈ lw_ok := (lw_okof 850 qw_850 rfl)
theorem wd_X11_multiply : yX11_multiply.cls ≠ "java/lang/invoke/MethodHandle" ∧ yX11_multiply.cls ≠ "java/lang/invoke/VarHandle" ∧ (parseMethodDescriptor yX11_multiply.desc).map (fun d => d.parameters.length) = some 3 := ⟨pn_KindGrids_Wholes.1, pn_KindGrids_Wholes.2, pd_6⟩
theorem wi_X11_multiply : Cond.instanceMethod yX11_multiply ∈ lw_ok := (lw_okof 848 qw_848 rfl)
theorem ws_X11_multiply : Cond.selects yX11_multiply.cls yX11_multiply yX11_multiply ∈ lw_ok := (lw_okof 849 qw_849 rfl)
theorem kRX12_179 : dnLV RX12 179 3 9 yX11_multiply cX11_multiply 8 (some .int) := ⟨(lw_okof 847 qw_847 rfl), wi_X11_multiply, ws_X11_multiply, wn_KindGrids_Wholes, wc_X11_multiply, wd_X11_multiply, by decide, _, rfl, rfl⟩
theorem wc_X10_foldCells : Cond.code yX10_foldCells cX10_foldCells 11 (some .int) ∈ lw_ok := (lw_okof 867 qw_867 rfl)
theorem wd_X10_foldCells : yX10_foldCells.cls ≠ "java/lang/invoke/MethodHandle" ∧ yX10_foldCells.cls ≠ "java/lang/invoke/VarHandle" ∧ (parseMethodDescriptor yX10_foldCells.desc).map (fun d => d.parameters.length) = some 5 := ⟨pn_KindGrids_Sums.1, pn_KindGrids_Sums.2, pd_9⟩
theorem wi_X10_foldCells : Cond.instanceMethod yX10_foldCells ∈ lw_ok := (lw_okof 865 qw_865 rfl)
theorem ws_X10_foldCells : Cond.selects yX10_foldCells.cls yX10_foldCells yX10_foldCells ∈ lw_ok := (lw_okof 866 qw_866 rfl)
theorem kRX12_182 : dnLV RX12 182 5 8 yX10_foldCells cX10_foldCells 11 (some .int) := ⟨(lw_okof 864 qw_864 rfl), wi_X10_foldCells, ws_X10_foldCells, wn_KindGrids_Sums, wc_X10_foldCells, wd_X10_foldCells, by decide, _, rfl, rfl⟩
theorem wc_X10_sumProducts : Cond.code yX10_sumProducts cX10_sumProducts 10 (some .int) ∈ lw_ok := (lw_okof 913 qw_913 rfl)
theorem wd_X10_sumProducts : yX10_sumProducts.cls ≠ "java/lang/invoke/MethodHandle" ∧ yX10_sumProducts.cls ≠ "java/lang/invoke/VarHandle" ∧ (parseMethodDescriptor yX10_sumProducts.desc).map (fun d => d.parameters.length) = some 5 := ⟨pn_KindGrids_Sums.1, pn_KindGrids_Sums.2, pd_9⟩
theorem wi_X10_sumProducts : Cond.instanceMethod yX10_sumProducts ∈ lw_ok := (lw_okof 911 qw_911 rfl)
theorem ws_X10_sumProducts : Cond.selects yX10_sumProducts.cls yX10_sumProducts yX10_sumProducts ∈ lw_ok := (lw_okof 912 qw_912 rfl)
theorem kRX12_185 : dnLV RX12 185 5 8 yX10_sumProducts cX10_sumProducts 10 (some .int) := ⟨(lw_okof 910 qw_910 rfl), wi_X10_sumProducts, ws_X10_sumProducts, wn_KindGrids_Sums, wc_X10_sumProducts, wd_X10_sumProducts, by decide, _, rfl, rfl⟩
theorem wc_X7_bestTrail : Cond.code yX7_bestTrail cX7_bestTrail 7 (some .int) ∈ lw_ok := (lw_okof 923 qw_923 rfl)
theorem wd_X7_bestTrail : yX7_bestTrail.cls ≠ "java/lang/invoke/MethodHandle" ∧ yX7_bestTrail.cls ≠ "java/lang/invoke/VarHandle" ∧ (parseMethodDescriptor yX7_bestTrail.desc).map (fun d => d.parameters.length) = some 1 := ⟨pn_KindGrids_Searches.1, pn_KindGrids_Searches.2, pd_4⟩
theorem wi_X7_bestTrail : Cond.instanceMethod yX7_bestTrail ∈ lw_ok := (lw_okof 921 qw_921 rfl)
theorem ws_X7_bestTrail : Cond.selects yX7_bestTrail.cls yX7_bestTrail yX7_bestTrail ∈ lw_ok := (lw_okof 922 qw_922 rfl)
theorem kRX12_188 : dnLV RX12 188 1 6 yX7_bestTrail cX7_bestTrail 7 (some .int) := ⟨(lw_okof 920 qw_920 rfl), wi_X7_bestTrail, ws_X7_bestTrail, wn_KindGrids_Searches, wc_X7_bestTrail, wd_X7_bestTrail, by decide, _, rfl, rfl⟩
theorem wc_X4_regionOf : Cond.code yX4_regionOf cX4_regionOf 7 (some .int) ∈ lw_ok := (lw_okof 954 qw_954 rfl)
theorem wd_X4_regionOf : yX4_regionOf.cls ≠ "java/lang/invoke/MethodHandle" ∧ yX4_regionOf.cls ≠ "java/lang/invoke/VarHandle" ∧ (parseMethodDescriptor yX4_regionOf.desc).map (fun d => d.parameters.length) = some 3 := ⟨pn_KindGrids_Regions.1, pn_KindGrids_Regions.2, pd_6⟩
theorem wi_X4_regionOf : Cond.instanceMethod yX4_regionOf ∈ lw_ok := (lw_okof 952 qw_952 rfl)
theorem ws_X4_regionOf : Cond.selects yX4_regionOf.cls yX4_regionOf yX4_regionOf ∈ lw_ok := (lw_okof 953 qw_953 rfl)
theorem kRX12_191 : dnLV RX12 191 3 3 yX4_regionOf cX4_regionOf 7 (some .int) := ⟨(lw_okof 951 qw_951 rfl), wi_X4_regionOf, ws_X4_regionOf, wn_KindGrids_Regions, wc_X4_regionOf, wd_X4_regionOf, by decide, _, rfl, rfl⟩
theorem wc_X4_countRegions : Cond.code yX4_countRegions cX4_countRegions 8 (some .int) ∈ lw_ok := (lw_okof 980 qw_980 rfl)
theorem wd_X4_countRegions : yX4_countRegions.cls ≠ "java/lang/invoke/MethodHandle" ∧ yX4_countRegions.cls ≠ "java/lang/invoke/VarHandle" ∧ (parseMethodDescriptor yX4_countRegions.desc).map (fun d => d.parameters.length) = some 1 := ⟨pn_KindGrids_Regions.1, pn_KindGrids_Regions.2, pd_4⟩
theorem wi_X4_countRegions : Cond.instanceMethod yX4_countRegions ∈ lw_ok := (lw_okof 978 qw_978 rfl)
theorem ws_X4_countRegions : Cond.selects yX4_countRegions.cls yX4_countRegions yX4_countRegions ∈ lw_ok := (lw_okof 979 qw_979 rfl)
theorem kRX12_194 : dnLV RX12 194 1 3 yX4_countRegions cX4_countRegions 8 (some .int) := ⟨(lw_okof 977 qw_977 rfl), wi_X4_countRegions, ws_X4_countRegions, wn_KindGrids_Regions, wc_X4_countRegions, wd_X4_countRegions, by decide, _, rfl, rfl⟩
theorem wc_X4_paintRegion : Cond.code yX4_paintRegion cX4_paintRegion 11 (some .int) ∈ lw_ok := (lw_okof 991 qw_991 rfl)
theorem wd_X4_paintRegion : yX4_paintRegion.cls ≠ "java/lang/invoke/MethodHandle" ∧ yX4_paintRegion.cls ≠ "java/lang/invoke/VarHandle" ∧ (parseMethodDescriptor yX4_paintRegion.desc).map (fun d => d.parameters.length) = some 5 := ⟨pn_KindGrids_Regions.1, pn_KindGrids_Regions.2, pd_7⟩
theorem wi_X4_paintRegion : Cond.instanceMethod yX4_paintRegion ∈ lw_ok := (lw_okof 989 qw_989 rfl)
theorem ws_X4_paintRegion : Cond.selects yX4_paintRegion.cls yX4_paintRegion yX4_paintRegion ∈ lw_ok := (lw_okof 990 qw_990 rfl)
theorem kRX12_197 : dnLV RX12 197 5 3 yX4_paintRegion cX4_paintRegion 11 (some .int) := ⟨(lw_okof 988 qw_988 rfl), wi_X4_paintRegion, ws_X4_paintRegion, wn_KindGrids_Regions, wc_X4_paintRegion, wd_X4_paintRegion, by decide, _, rfl, rfl⟩
theorem wc_X7_bestBlock : Cond.code yX7_bestBlock cX7_bestBlock 5 (some .int) ∈ lw_ok := (lw_okof 1003 qw_1003 rfl)
theorem wd_X7_bestBlock : yX7_bestBlock.cls ≠ "java/lang/invoke/MethodHandle" ∧ yX7_bestBlock.cls ≠ "java/lang/invoke/VarHandle" ∧ (parseMethodDescriptor yX7_bestBlock.desc).map (fun d => d.parameters.length) = some 1 := ⟨pn_KindGrids_Searches.1, pn_KindGrids_Searches.2, pd_4⟩
theorem wi_X7_bestBlock : Cond.instanceMethod yX7_bestBlock ∈ lw_ok := (lw_okof 1001 qw_1001 rfl)
theorem ws_X7_bestBlock : Cond.selects yX7_bestBlock.cls yX7_bestBlock yX7_bestBlock ∈ lw_ok := (lw_okof 1002 qw_1002 rfl)
theorem kRX12_200 : dnLV RX12 200 1 6 yX7_bestBlock cX7_bestBlock 5 (some .int) := ⟨(lw_okof 1000 qw_1000 rfl), wi_X7_bestBlock, ws_X7_bestBlock, wn_KindGrids_Searches, wc_X7_bestBlock, wd_X7_bestBlock, by decide, _, rfl, rfl⟩
theorem wc_X7_findGrid : Cond.code yX7_findGrid cX7_findGrid 8 (some .int) ∈ lw_ok := (lw_okof 1019 qw_1019 rfl)
theorem wd_X7_findGrid : yX7_findGrid.cls ≠ "java/lang/invoke/MethodHandle" ∧ yX7_findGrid.cls ≠ "java/lang/invoke/VarHandle" ∧ (parseMethodDescriptor yX7_findGrid.desc).map (fun d => d.parameters.length) = some 3 := ⟨pn_KindGrids_Searches.1, pn_KindGrids_Searches.2, pd_6⟩
theorem wi_X7_findGrid : Cond.instanceMethod yX7_findGrid ∈ lw_ok := (lw_okof 1017 qw_1017 rfl)
theorem ws_X7_findGrid : Cond.selects yX7_findGrid.cls yX7_findGrid yX7_findGrid ∈ lw_ok := (lw_okof 1018 qw_1018 rfl)
theorem kRX12_203 : dnLV RX12 203 3 6 yX7_findGrid cX7_findGrid 8 (some .int) := ⟨(lw_okof 1016 qw_1016 rfl), wi_X7_findGrid, ws_X7_findGrid, wn_KindGrids_Searches, wc_X7_findGrid, wd_X7_findGrid, by decide, _, rfl, rfl⟩
theorem wc_X3_append : Cond.code yX3_append cX3_append 2 (some .int) ∈ lw_ok := (lw_okof 1037 qw_1037 rfl)
theorem wd_X3_append : yX3_append.cls ≠ "java/lang/invoke/MethodHandle" ∧ yX3_append.cls ≠ "java/lang/invoke/VarHandle" ∧ (parseMethodDescriptor yX3_append.desc).map (fun d => d.parameters.length) = some 1 := ⟨pn_KindGrids_PlanText.1, pn_KindGrids_PlanText.2, pd_4⟩
theorem wi_X3_append : Cond.instanceMethod yX3_append ∈ lw_ok := (lw_okof 1035 qw_1035 rfl)
theorem ws_X3_append : Cond.selects yX3_append.cls yX3_append yX3_append ∈ lw_ok := (lw_okof 1036 qw_1036 rfl)
theorem kRX12_206 : dnLV RX12 206 1 2 yX3_append cX3_append 2 (some .int) := ⟨(lw_okof 1034 qw_1034 rfl), wi_X3_append, ws_X3_append, wn_KindGrids_PlanText, wc_X3_append, wd_X3_append, by decide, _, rfl, rfl⟩
theorem wc_X3_empty : Cond.code yX3_empty cX3_empty 2 (some .int) ∈ lw_ok := (lw_okof 1045 qw_1045 rfl)
theorem pd_11 : (parseMethodDescriptor "()I").map (fun d => d.parameters.length) = some 0 := by decide +kernel
theorem wd_X3_empty : yX3_empty.cls ≠ "java/lang/invoke/MethodHandle" ∧ yX3_empty.cls ≠ "java/lang/invoke/VarHandle" ∧ (parseMethodDescriptor yX3_empty.desc).map (fun d => d.parameters.length) = some 0 := ⟨pn_KindGrids_PlanText.1, pn_KindGrids_PlanText.2, pd_11⟩
theorem wi_X3_empty : Cond.instanceMethod yX3_empty ∈ lw_ok := (lw_okof 1043 qw_1043 rfl)
theorem ws_X3_empty : Cond.selects yX3_empty.cls yX3_empty yX3_empty ∈ lw_ok := (lw_okof 1044 qw_1044 rfl)
theorem kRX12_209 : dnLV RX12 209 0 2 yX3_empty cX3_empty 2 (some .int) := ⟨(lw_okof 1042 qw_1042 rfl), wi_X3_empty, ws_X3_empty, wn_KindGrids_PlanText, wc_X3_empty, wd_X3_empty, by decide, _, rfl, rfl⟩
theorem wc_X3_parse : Cond.code yX3_parse cX3_parse 6 (some .int) ∈ lw_ok := (lw_okof 1053 qw_1053 rfl)
theorem wd_X3_parse : yX3_parse.cls ≠ "java/lang/invoke/MethodHandle" ∧ yX3_parse.cls ≠ "java/lang/invoke/VarHandle" ∧ (parseMethodDescriptor yX3_parse.desc).map (fun d => d.parameters.length) = some 0 := ⟨pn_KindGrids_PlanText.1, pn_KindGrids_PlanText.2, pd_11⟩
theorem wi_X3_parse : Cond.instanceMethod yX3_parse ∈ lw_ok := (lw_okof 1051 qw_1051 rfl)
theorem ws_X3_parse : Cond.selects yX3_parse.cls yX3_parse yX3_parse ∈ lw_ok := (lw_okof 1052 qw_1052 rfl)
theorem kRX12_213 : dnLV RX12 213 0 2 yX3_parse cX3_parse 6 (some .int) := ⟨(lw_okof 1050 qw_1050 rfl), wi_X3_parse, ws_X3_parse, wn_KindGrids_PlanText, wc_X3_parse, wd_X3_parse, by decide, _, rfl, rfl⟩
theorem wc_X9_copyFrom : Cond.code yX9_copyFrom cX9_copyFrom 3 none ∈ lw_ok := (lw_okof 1135 qw_1135 rfl)
theorem pd_12 : (parseMethodDescriptor "(LKindGrids$Store;)V").map (fun d => d.parameters.length) = some 1 := by decide +kernel
theorem wd_X9_copyFrom : yX9_copyFrom.cls ≠ "java/lang/invoke/MethodHandle" ∧ yX9_copyFrom.cls ≠ "java/lang/invoke/VarHandle" ∧ (parseMethodDescriptor yX9_copyFrom.desc).map (fun d => d.parameters.length) = some 1 := ⟨pn_KindGrids_Store.1, pn_KindGrids_Store.2, pd_12⟩
theorem wi_X9_copyFrom : Cond.instanceMethod yX9_copyFrom ∈ lw_ok := (lw_okof 1133 qw_1133 rfl)
theorem ws_X9_copyFrom : Cond.selects yX9_copyFrom.cls yX9_copyFrom yX9_copyFrom ∈ lw_ok := (lw_okof 1134 qw_1134 rfl)
theorem kRX12_216 : dnLV RX12 216 1 7 yX9_copyFrom cX9_copyFrom 3 none := ⟨(lw_okof 1132 qw_1132 rfl), wi_X9_copyFrom, ws_X9_copyFrom, wn_KindGrids_Store, wc_X9_copyFrom, wd_X9_copyFrom, by decide, _, rfl, rfl⟩
theorem wc_X12_carryOut : Cond.code yX12_carryOut cX12_carryOut 6 (some .int) ∈ lw_ok := (lw_okof 1141 qw_1141 rfl)
theorem wd_X12_carryOut : yX12_carryOut.cls ≠ "java/lang/invoke/MethodHandle" ∧ yX12_carryOut.cls ≠ "java/lang/invoke/VarHandle" ∧ (parseMethodDescriptor yX12_carryOut.desc).map (fun d => d.parameters.length) = some 1 := ⟨pn_KindGrids.1, pn_KindGrids.2, pd_4⟩
theorem wi_X12_carryOut : Cond.instanceMethod yX12_carryOut ∈ lw_ok := (lw_okof 1140 qw_1140 rfl)
theorem ws_X12_carryOut : Cond.selects yX12_carryOut.cls yX12_carryOut yX12_carryOut ∈ lw_ok := (lw_okof 1 qw_1 rfl)
theorem kRX12_220 : dnLV RX12 220 1 10 yX12_carryOut cX12_carryOut 6 (some .int) := ⟨(lw_okof 1138 qw_1138 rfl), wi_X12_carryOut, ws_X12_carryOut, wn_KindGrids, wc_X12_carryOut, wd_X12_carryOut, by decide, _, rfl, rfl⟩
theorem wc_X12_isKind : Cond.code yX12_isKind cX12_isKind 1 (some .boolean) ∈ lw_ok := (lw_okof 469 qw_469 rfl)
theorem pd_13 : (parseMethodDescriptor "(I)Z").map (fun d => d.parameters.length) = some 1 := by decide +kernel
theorem wd_X12_isKind : yX12_isKind.cls ≠ "java/lang/invoke/MethodHandle" ∧ yX12_isKind.cls ≠ "java/lang/invoke/VarHandle" ∧ (parseMethodDescriptor yX12_isKind.desc).map (fun d => d.parameters.length) = some 1 := ⟨pn_KindGrids.1, pn_KindGrids.2, pd_13⟩
theorem wt_X12_isKind : Cond.static yX12_isKind ∈ lw_ok := (lw_okof 468 qw_468 rfl)
theorem kRX12_227 : dnLS RX12 227 1 yX12_isKind cX12_isKind 1 (some .boolean) := ⟨(lw_okof 1162 qw_1162 rfl), wt_X12_isKind, wn_KindGrids, wc_X12_isKind, wd_X12_isKind⟩
theorem wc_X12_leastKind : Cond.code yX12_leastKind cX12_leastKind 2 (some .int) ∈ lw_ok := (lw_okof 710 qw_710 rfl)
theorem wd_X12_leastKind : yX12_leastKind.cls ≠ "java/lang/invoke/MethodHandle" ∧ yX12_leastKind.cls ≠ "java/lang/invoke/VarHandle" ∧ (parseMethodDescriptor yX12_leastKind.desc).map (fun d => d.parameters.length) = some 1 := ⟨pn_KindGrids.1, pn_KindGrids.2, pd_4⟩
theorem wt_X12_leastKind : Cond.static yX12_leastKind ∈ lw_ok := (lw_okof 709 qw_709 rfl)
theorem kRX12_231 : dnLS RX12 231 1 yX12_leastKind cX12_leastKind 2 (some .int) := ⟨(lw_okof 1163 qw_1163 rfl), wt_X12_leastKind, wn_KindGrids, wc_X12_leastKind, wd_X12_leastKind⟩
theorem wc_X12_isAct : Cond.code yX12_isAct cX12_isAct 1 (some .boolean) ∈ lw_ok := (lw_okof 1170 qw_1170 rfl)
theorem wd_X12_isAct : yX12_isAct.cls ≠ "java/lang/invoke/MethodHandle" ∧ yX12_isAct.cls ≠ "java/lang/invoke/VarHandle" ∧ (parseMethodDescriptor yX12_isAct.desc).map (fun d => d.parameters.length) = some 1 := ⟨pn_KindGrids.1, pn_KindGrids.2, pd_13⟩
theorem wt_X12_isAct : Cond.static yX12_isAct ∈ lw_ok := (lw_okof 1169 qw_1169 rfl)
theorem kRX12_234 : dnLS RX12 234 1 yX12_isAct cX12_isAct 1 (some .boolean) := ⟨(lw_okof 1168 qw_1168 rfl), wt_X12_isAct, wn_KindGrids, wc_X12_isAct, wd_X12_isAct⟩
theorem wc_X12_allows : Cond.code yX12_allows cX12_allows 2 (some .boolean) ∈ lw_ok := (lw_okof 1173 qw_1173 rfl)
theorem pd_14 : (parseMethodDescriptor "(II)Z").map (fun d => d.parameters.length) = some 2 := by decide +kernel
theorem wd_X12_allows : yX12_allows.cls ≠ "java/lang/invoke/MethodHandle" ∧ yX12_allows.cls ≠ "java/lang/invoke/VarHandle" ∧ (parseMethodDescriptor yX12_allows.desc).map (fun d => d.parameters.length) = some 2 := ⟨pn_KindGrids.1, pn_KindGrids.2, pd_14⟩
theorem wt_X12_allows : Cond.static yX12_allows ∈ lw_ok := (lw_okof 1172 qw_1172 rfl)
theorem kRX12_237 : dnLS RX12 237 2 yX12_allows cX12_allows 2 (some .boolean) := ⟨(lw_okof 1171 qw_1171 rfl), wt_X12_allows, wn_KindGrids, wc_X12_allows, wd_X12_allows⟩
theorem wc_X1_observe : Cond.code yX1_observe cX1_observe 3 (some .int) ∈ lw_ok := (lw_okof 1182 qw_1182 rfl)
theorem wd_X1_observe : yX1_observe.cls ≠ "java/lang/invoke/MethodHandle" ∧ yX1_observe.cls ≠ "java/lang/invoke/VarHandle" ∧ (parseMethodDescriptor yX1_observe.desc).map (fun d => d.parameters.length) = some 2 := ⟨pn_KindGrids_Guesses.1, pn_KindGrids_Guesses.2, pd_3⟩
theorem wi_X1_observe : Cond.instanceMethod yX1_observe ∈ lw_ok := (lw_okof 1180 qw_1180 rfl)
theorem ws_X1_observe : Cond.selects yX1_observe.cls yX1_observe yX1_observe ∈ lw_ok := (lw_okof 1181 qw_1181 rfl)
theorem kRX12_241 : dnLV RX12 241 2 0 yX1_observe cX1_observe 3 (some .int) := ⟨(lw_okof 1179 qw_1179 rfl), wi_X1_observe, ws_X1_observe, wn_KindGrids_Guesses, wc_X1_observe, wd_X1_observe, by decide, _, rfl, rfl⟩
theorem wc_X1_removeAll : Cond.code yX1_removeAll cX1_removeAll 2 (some .int) ∈ lw_ok := (lw_okof 1191 qw_1191 rfl)
theorem wd_X1_removeAll : yX1_removeAll.cls ≠ "java/lang/invoke/MethodHandle" ∧ yX1_removeAll.cls ≠ "java/lang/invoke/VarHandle" ∧ (parseMethodDescriptor yX1_removeAll.desc).map (fun d => d.parameters.length) = some 0 := ⟨pn_KindGrids_Guesses.1, pn_KindGrids_Guesses.2, pd_11⟩
theorem wi_X1_removeAll : Cond.instanceMethod yX1_removeAll ∈ lw_ok := (lw_okof 1189 qw_1189 rfl)
theorem ws_X1_removeAll : Cond.selects yX1_removeAll.cls yX1_removeAll yX1_removeAll ∈ lw_ok := (lw_okof 1190 qw_1190 rfl)
theorem kRX12_244 : dnLV RX12 244 0 0 yX1_removeAll cX1_removeAll 2 (some .int) := ⟨(lw_okof 1188 qw_1188 rfl), wi_X1_removeAll, ws_X1_removeAll, wn_KindGrids_Guesses, wc_X1_removeAll, wd_X1_removeAll, by decide, _, rfl, rfl⟩
theorem wc_X1_possibleKinds : Cond.code yX1_possibleKinds cX1_possibleKinds 3 (some .int) ∈ lw_ok := (lw_okof 1199 qw_1199 rfl)
theorem wd_X1_possibleKinds : yX1_possibleKinds.cls ≠ "java/lang/invoke/MethodHandle" ∧ yX1_possibleKinds.cls ≠ "java/lang/invoke/VarHandle" ∧ (parseMethodDescriptor yX1_possibleKinds.desc).map (fun d => d.parameters.length) = some 0 := ⟨pn_KindGrids_Guesses.1, pn_KindGrids_Guesses.2, pd_11⟩
theorem wi_X1_possibleKinds : Cond.instanceMethod yX1_possibleKinds ∈ lw_ok := (lw_okof 1197 qw_1197 rfl)
theorem ws_X1_possibleKinds : Cond.selects yX1_possibleKinds.cls yX1_possibleKinds yX1_possibleKinds ∈ lw_ok := (lw_okof 1198 qw_1198 rfl)
theorem kRX12_247 : dnLV RX12 247 0 0 yX1_possibleKinds cX1_possibleKinds 3 (some .int) := ⟨(lw_okof 1196 qw_1196 rfl), wi_X1_possibleKinds, ws_X1_possibleKinds, wn_KindGrids_Guesses, wc_X1_possibleKinds, wd_X1_possibleKinds, by decide, _, rfl, rfl⟩
theorem wc_X1_bestAct : Cond.code yX1_bestAct cX1_bestAct 8 (some .int) ∈ lw_ok := (lw_okof 1212 qw_1212 rfl)
theorem wd_X1_bestAct : yX1_bestAct.cls ≠ "java/lang/invoke/MethodHandle" ∧ yX1_bestAct.cls ≠ "java/lang/invoke/VarHandle" ∧ (parseMethodDescriptor yX1_bestAct.desc).map (fun d => d.parameters.length) = some 0 := ⟨pn_KindGrids_Guesses.1, pn_KindGrids_Guesses.2, pd_11⟩
theorem wi_X1_bestAct : Cond.instanceMethod yX1_bestAct ∈ lw_ok := (lw_okof 1210 qw_1210 rfl)
theorem ws_X1_bestAct : Cond.selects yX1_bestAct.cls yX1_bestAct yX1_bestAct ∈ lw_ok := (lw_okof 1211 qw_1211 rfl)
theorem kRX12_250 : dnLV RX12 250 0 0 yX1_bestAct cX1_bestAct 8 (some .int) := ⟨(lw_okof 1209 qw_1209 rfl), wi_X1_bestAct, ws_X1_bestAct, wn_KindGrids_Guesses, wc_X1_bestAct, wd_X1_bestAct, by decide, _, rfl, rfl⟩
theorem wc_X12_isImage : Cond.code yX12_isImage cX12_isImage 1 (some .boolean) ∈ lw_ok := (lw_okof 1230 qw_1230 rfl)
theorem wd_X12_isImage : yX12_isImage.cls ≠ "java/lang/invoke/MethodHandle" ∧ yX12_isImage.cls ≠ "java/lang/invoke/VarHandle" ∧ (parseMethodDescriptor yX12_isImage.desc).map (fun d => d.parameters.length) = some 1 := ⟨pn_KindGrids.1, pn_KindGrids.2, pd_13⟩
theorem wt_X12_isImage : Cond.static yX12_isImage ∈ lw_ok := (lw_okof 1229 qw_1229 rfl)
theorem kRX12_253 : dnLS RX12 253 1 yX12_isImage cX12_isImage 1 (some .boolean) := ⟨(lw_okof 1228 qw_1228 rfl), wt_X12_isImage, wn_KindGrids, wc_X12_isImage, wd_X12_isImage⟩
theorem wc_X9_presentGrids : Cond.code yX9_presentGrids cX9_presentGrids 3 (some .int) ∈ lw_ok := (lw_okof 1234 qw_1234 rfl)
theorem wd_X9_presentGrids : yX9_presentGrids.cls ≠ "java/lang/invoke/MethodHandle" ∧ yX9_presentGrids.cls ≠ "java/lang/invoke/VarHandle" ∧ (parseMethodDescriptor yX9_presentGrids.desc).map (fun d => d.parameters.length) = some 0 := ⟨pn_KindGrids_Store.1, pn_KindGrids_Store.2, pd_11⟩
theorem wi_X9_presentGrids : Cond.instanceMethod yX9_presentGrids ∈ lw_ok := (lw_okof 1232 qw_1232 rfl)
theorem ws_X9_presentGrids : Cond.selects yX9_presentGrids.cls yX9_presentGrids yX9_presentGrids ∈ lw_ok := (lw_okof 1233 qw_1233 rfl)
theorem kRX12_256 : dnLV RX12 256 0 7 yX9_presentGrids cX9_presentGrids 3 (some .int) := ⟨(lw_okof 1231 qw_1231 rfl), wi_X9_presentGrids, ws_X9_presentGrids, wn_KindGrids_Store, wc_X9_presentGrids, wd_X9_presentGrids, by decide, _, rfl, rfl⟩
theorem wc_X12_keptImages : Cond.code yX12_keptImages cX12_keptImages 3 (some .int) ∈ lw_ok := (lw_okof 1262 qw_1262 rfl)
theorem wd_X12_keptImages : yX12_keptImages.cls ≠ "java/lang/invoke/MethodHandle" ∧ yX12_keptImages.cls ≠ "java/lang/invoke/VarHandle" ∧ (parseMethodDescriptor yX12_keptImages.desc).map (fun d => d.parameters.length) = some 0 := ⟨pn_KindGrids.1, pn_KindGrids.2, pd_11⟩
theorem wi_X12_keptImages : Cond.instanceMethod yX12_keptImages ∈ lw_ok := (lw_okof 1261 qw_1261 rfl)
theorem ws_X12_keptImages : Cond.selects yX12_keptImages.cls yX12_keptImages yX12_keptImages ∈ lw_ok := (lw_okof 2 qw_2 rfl)
theorem kRX12_269 : dnLV RX12 269 0 10 yX12_keptImages cX12_keptImages 3 (some .int) := ⟨(lw_okof 1259 qw_1259 rfl), wi_X12_keptImages, ws_X12_keptImages, wn_KindGrids, wc_X12_keptImages, wd_X12_keptImages, by decide, _, rfl, rfl⟩
theorem wc_X9_amountOf : Cond.code yX9_amountOf cX9_amountOf 5 (some .int) ∈ lw_ok := (lw_okof 1266 qw_1266 rfl)
theorem wd_X9_amountOf : yX9_amountOf.cls ≠ "java/lang/invoke/MethodHandle" ∧ yX9_amountOf.cls ≠ "java/lang/invoke/VarHandle" ∧ (parseMethodDescriptor yX9_amountOf.desc).map (fun d => d.parameters.length) = some 1 := ⟨pn_KindGrids_Store.1, pn_KindGrids_Store.2, pd_4⟩
theorem wi_X9_amountOf : Cond.instanceMethod yX9_amountOf ∈ lw_ok := (lw_okof 1264 qw_1264 rfl)
theorem ws_X9_amountOf : Cond.selects yX9_amountOf.cls yX9_amountOf yX9_amountOf ∈ lw_ok := (lw_okof 1265 qw_1265 rfl)
theorem kRX12_272 : dnLV RX12 272 1 7 yX9_amountOf cX9_amountOf 5 (some .int) := ⟨(lw_okof 1263 qw_1263 rfl), wi_X9_amountOf, ws_X9_amountOf, wn_KindGrids_Store, wc_X9_amountOf, wd_X9_amountOf, by decide, _, rfl, rfl⟩
theorem wc_X9_rowsOfKind : Cond.code yX9_rowsOfKind cX9_rowsOfKind 4 (some .int) ∈ lw_ok := (lw_okof 1282 qw_1282 rfl)
theorem wd_X9_rowsOfKind : yX9_rowsOfKind.cls ≠ "java/lang/invoke/MethodHandle" ∧ yX9_rowsOfKind.cls ≠ "java/lang/invoke/VarHandle" ∧ (parseMethodDescriptor yX9_rowsOfKind.desc).map (fun d => d.parameters.length) = some 1 := ⟨pn_KindGrids_Store.1, pn_KindGrids_Store.2, pd_4⟩
theorem wi_X9_rowsOfKind : Cond.instanceMethod yX9_rowsOfKind ∈ lw_ok := (lw_okof 1280 qw_1280 rfl)
theorem ws_X9_rowsOfKind : Cond.selects yX9_rowsOfKind.cls yX9_rowsOfKind yX9_rowsOfKind ∈ lw_ok := (lw_okof 1281 qw_1281 rfl)
theorem kRX12_275 : dnLV RX12 275 1 7 yX9_rowsOfKind cX9_rowsOfKind 4 (some .int) := ⟨(lw_okof 1279 qw_1279 rfl), wi_X9_rowsOfKind, ws_X9_rowsOfKind, wn_KindGrids_Store, wc_X9_rowsOfKind, wd_X9_rowsOfKind, by decide, _, rfl, rfl⟩
theorem wc_X9_checksum : Cond.code yX9_checksum cX9_checksum 6 (some .long) ∈ lw_ok := (lw_okof 1290 qw_1290 rfl)
theorem pd_15 : (parseMethodDescriptor "()J").map (fun d => d.parameters.length) = some 0 := by decide +kernel
theorem wd_X9_checksum : yX9_checksum.cls ≠ "java/lang/invoke/MethodHandle" ∧ yX9_checksum.cls ≠ "java/lang/invoke/VarHandle" ∧ (parseMethodDescriptor yX9_checksum.desc).map (fun d => d.parameters.length) = some 0 := ⟨pn_KindGrids_Store.1, pn_KindGrids_Store.2, pd_15⟩
theorem wi_X9_checksum : Cond.instanceMethod yX9_checksum ∈ lw_ok := (lw_okof 1288 qw_1288 rfl)
theorem ws_X9_checksum : Cond.selects yX9_checksum.cls yX9_checksum yX9_checksum ∈ lw_ok := (lw_okof 1289 qw_1289 rfl)
theorem kRX12_278 : dnLV RX12 278 0 7 yX9_checksum cX9_checksum 6 (some .long) := ⟨(lw_okof 1287 qw_1287 rfl), wi_X9_checksum, ws_X9_checksum, wn_KindGrids_Store, wc_X9_checksum, wd_X9_checksum, by decide, _, rfl, rfl⟩
theorem wc_X3_numberOf : Cond.code yX3_numberOf cX3_numberOf 3 (some .int) ∈ lw_ok := (lw_okof 1145 qw_1145 rfl)
theorem wd_X3_numberOf : yX3_numberOf.cls ≠ "java/lang/invoke/MethodHandle" ∧ yX3_numberOf.cls ≠ "java/lang/invoke/VarHandle" ∧ (parseMethodDescriptor yX3_numberOf.desc).map (fun d => d.parameters.length) = some 2 := ⟨pn_KindGrids_PlanText.1, pn_KindGrids_PlanText.2, pd_3⟩
theorem wi_X3_numberOf : Cond.instanceMethod yX3_numberOf ∈ lw_ok := (lw_okof 1143 qw_1143 rfl)
theorem ws_X3_numberOf : Cond.selects yX3_numberOf.cls yX3_numberOf yX3_numberOf ∈ lw_ok := (lw_okof 1144 qw_1144 rfl)
theorem kRX12_282 : dnLV RX12 282 2 2 yX3_numberOf cX3_numberOf 3 (some .int) := ⟨(lw_okof 1142 qw_1142 rfl), wi_X3_numberOf, ws_X3_numberOf, wn_KindGrids_PlanText, wc_X3_numberOf, wd_X3_numberOf, by decide, _, rfl, rfl⟩
theorem wc_X3_wordOf : Cond.code yX3_wordOf cX3_wordOf 2 (some (.object "KindGrids$Step")) ∈ lw_ok := (lw_okof 1151 qw_1151 rfl)
theorem pd_16 : (parseMethodDescriptor "(I)LKindGrids$Step;").map (fun d => d.parameters.length) = some 1 := by decide +kernel
theorem wd_X3_wordOf : yX3_wordOf.cls ≠ "java/lang/invoke/MethodHandle" ∧ yX3_wordOf.cls ≠ "java/lang/invoke/VarHandle" ∧ (parseMethodDescriptor yX3_wordOf.desc).map (fun d => d.parameters.length) = some 1 := ⟨pn_KindGrids_PlanText.1, pn_KindGrids_PlanText.2, pd_16⟩
theorem wi_X3_wordOf : Cond.instanceMethod yX3_wordOf ∈ lw_ok := (lw_okof 1149 qw_1149 rfl)
theorem ws_X3_wordOf : Cond.selects yX3_wordOf.cls yX3_wordOf yX3_wordOf ∈ lw_ok := (lw_okof 1150 qw_1150 rfl)
theorem kRX12_290 : dnLV RX12 290 1 2 yX3_wordOf cX3_wordOf 2 (some (.object "KindGrids$Step")) := ⟨(lw_okof 1148 qw_1148 rfl), wi_X3_wordOf, ws_X3_wordOf, wn_KindGrids_PlanText, wc_X3_wordOf, wd_X3_wordOf, by decide, _, rfl, rfl⟩
theorem kRX12_299 : Cond.fieldLink RX12 299 "KindGrids" "TAKEN" "[I" ∈ lw_ok := (lw_okof 586 qw_586 rfl)
theorem wc_X12_isPlain : Cond.code yX12_isPlain cX12_isPlain 1 (some .boolean) ∈ lw_ok := (lw_okof 582 qw_582 rfl)
theorem wd_X12_isPlain : yX12_isPlain.cls ≠ "java/lang/invoke/MethodHandle" ∧ yX12_isPlain.cls ≠ "java/lang/invoke/VarHandle" ∧ (parseMethodDescriptor yX12_isPlain.desc).map (fun d => d.parameters.length) = some 1 := ⟨pn_KindGrids.1, pn_KindGrids.2, pd_13⟩
theorem wt_X12_isPlain : Cond.static yX12_isPlain ∈ lw_ok := (lw_okof 581 qw_581 rfl)
theorem kRX12_302 : dnLS RX12 302 1 yX12_isPlain cX12_isPlain 1 (some .boolean) := ⟨(lw_okof 580 qw_580 rfl), wt_X12_isPlain, wn_KindGrids, wc_X12_isPlain, wd_X12_isPlain⟩
theorem wc_X12_takes : Cond.code yX12_takes cX12_takes 2 (some .boolean) ∈ lw_ok := (lw_okof 585 qw_585 rfl)
theorem wd_X12_takes : yX12_takes.cls ≠ "java/lang/invoke/MethodHandle" ∧ yX12_takes.cls ≠ "java/lang/invoke/VarHandle" ∧ (parseMethodDescriptor yX12_takes.desc).map (fun d => d.parameters.length) = some 2 := ⟨pn_KindGrids.1, pn_KindGrids.2, pd_14⟩
theorem wt_X12_takes : Cond.static yX12_takes ∈ lw_ok := (lw_okof 584 qw_584 rfl)
theorem kRX12_305 : dnLS RX12 305 2 yX12_takes cX12_takes 2 (some .boolean) := ⟨(lw_okof 583 qw_583 rfl), wt_X12_takes, wn_KindGrids, wc_X12_takes, wd_X12_takes⟩
theorem wc_X12_readsAs : Cond.code yX12_readsAs cX12_readsAs 2 (some .boolean) ∈ lw_ok := (lw_okof 579 qw_579 rfl)
theorem wd_X12_readsAs : yX12_readsAs.cls ≠ "java/lang/invoke/MethodHandle" ∧ yX12_readsAs.cls ≠ "java/lang/invoke/VarHandle" ∧ (parseMethodDescriptor yX12_readsAs.desc).map (fun d => d.parameters.length) = some 2 := ⟨pn_KindGrids.1, pn_KindGrids.2, pd_14⟩
theorem wt_X12_readsAs : Cond.static yX12_readsAs ∈ lw_ok := (lw_okof 578 qw_578 rfl)
theorem kRX12_308 : dnLS RX12 308 2 yX12_readsAs cX12_readsAs 2 (some .boolean) := ⟨(lw_okof 1174 qw_1174 rfl), wt_X12_readsAs, wn_KindGrids, wc_X12_readsAs, wd_X12_readsAs⟩
theorem kRX12_311 : Cond.constantDouble RX12 311 (4620693217682128896 : UInt64) ∈ lw_ok := (lw_okof 613 qw_613 rfl)
theorem kRX1_3 : Cond.methodLink RX1 3 Lib.objectInit ∈ lw_ok := (lw_okof 373 qw_373 rfl)
theorem kRX1_26 : dnLSN RX1 RX12 26 1 yX12_isAct cX12_isAct 1 (some .boolean) := ⟨(lw_nestof 1183 qw_1183 rfl), wt_X12_isAct, wn_KindGrids, wc_X12_isAct, wd_X12_isAct⟩
theorem wc_X1_isPossible : Cond.code yX1_isPossible cX1_isPossible 3 (some .boolean) ∈ lw_ok := (lw_okof 1203 qw_1203 rfl)
theorem wd_X1_isPossible : yX1_isPossible.cls ≠ "java/lang/invoke/MethodHandle" ∧ yX1_isPossible.cls ≠ "java/lang/invoke/VarHandle" ∧ (parseMethodDescriptor yX1_isPossible.desc).map (fun d => d.parameters.length) = some 1 := ⟨pn_KindGrids_Guesses.1, pn_KindGrids_Guesses.2, pd_13⟩
theorem wi_X1_isPossible : Cond.instanceMethod yX1_isPossible ∈ lw_ok := (lw_okof 1201 qw_1201 rfl)
theorem ws_X1_isPossible : Cond.selects yX1_isPossible.cls yX1_isPossible yX1_isPossible ∈ lw_ok := (lw_okof 1202 qw_1202 rfl)
theorem kRX1_30 : dnLV RX1 30 1 0 yX1_isPossible cX1_isPossible 3 (some .boolean) := ⟨(lw_okof 1200 qw_1200 rfl), wi_X1_isPossible, ws_X1_isPossible, wn_KindGrids_Guesses, wc_X1_isPossible, wd_X1_isPossible, by decide, _, rfl, rfl⟩
theorem kRX1_33 : dnLSN RX1 RX12 33 2 yX12_allows cX12_allows 2 (some .boolean) := ⟨(lw_nestof 1204 qw_1204 rfl), wt_X12_allows, wn_KindGrids, wc_X12_allows, wd_X12_allows⟩
theorem kRX1_37 : dnLV RX1 37 0 0 yX1_possibleKinds cX1_possibleKinds 3 (some .int) := ⟨(lw_okof 1213 qw_1213 rfl), wi_X1_possibleKinds, ws_X1_possibleKinds, wn_KindGrids_Guesses, wc_X1_possibleKinds, wd_X1_possibleKinds, by decide, _, rfl, rfl⟩
theorem wn_java_lang_Integer : Cond.initialized "java/lang/Integer" ∈ lw_ok := (lw_okof 124 qw_124 rfl)
theorem wc_J6_bitCount_0f7a4 : Cond.code yJ6_bitCount_0f7a4 cJ6_bitCount_0f7a4 1 (some .int) ∈ lw_ok := (lw_okof 1216 qw_1216 rfl)
theorem pn_java_lang_Integer : ("java/lang/Integer" : String) ≠ "java/lang/invoke/MethodHandle" ∧ ("java/lang/Integer" : String) ≠ "java/lang/invoke/VarHandle" := by decide +kernel
theorem wd_J6_bitCount_0f7a4 : yJ6_bitCount_0f7a4.cls ≠ "java/lang/invoke/MethodHandle" ∧ yJ6_bitCount_0f7a4.cls ≠ "java/lang/invoke/VarHandle" ∧ (parseMethodDescriptor yJ6_bitCount_0f7a4.desc).map (fun d => d.parameters.length) = some 1 := ⟨pn_java_lang_Integer.1, pn_java_lang_Integer.2, pd_4⟩
theorem wt_J6_bitCount_0f7a4 : Cond.static yJ6_bitCount_0f7a4 ∈ lw_ok := (lw_okof 1215 qw_1215 rfl)
theorem kRX1_41 : dnLS RX1 41 1 yJ6_bitCount_0f7a4 cJ6_bitCount_0f7a4 1 (some .int) := ⟨(lw_okof 1214 qw_1214 rfl), wt_J6_bitCount_0f7a4, wn_java_lang_Integer, wc_J6_bitCount_0f7a4, wd_J6_bitCount_0f7a4⟩
theorem wc_X1_kindsAllowing : Cond.code yX1_kindsAllowing cX1_kindsAllowing 4 (some .int) ∈ lw_ok := (lw_okof 1222 qw_1222 rfl)
theorem wd_X1_kindsAllowing : yX1_kindsAllowing.cls ≠ "java/lang/invoke/MethodHandle" ∧ yX1_kindsAllowing.cls ≠ "java/lang/invoke/VarHandle" ∧ (parseMethodDescriptor yX1_kindsAllowing.desc).map (fun d => d.parameters.length) = some 2 := ⟨pn_KindGrids_Guesses.1, pn_KindGrids_Guesses.2, pd_3⟩
theorem wt_X1_kindsAllowing : Cond.static yX1_kindsAllowing ∈ lw_ok := (lw_okof 1221 qw_1221 rfl)
theorem kRX1_47 : dnLS RX1 47 2 yX1_kindsAllowing cX1_kindsAllowing 4 (some .int) := ⟨(lw_okof 1220 qw_1220 rfl), wt_X1_kindsAllowing, wn_KindGrids_Guesses, wc_X1_kindsAllowing, wd_X1_kindsAllowing⟩
theorem wn_java_lang_Math : Cond.initialized "java/lang/Math" ∈ lw_ok := (lw_okof 118 qw_118 rfl)
theorem wc_J9_max_7cf53 : Cond.code yJ9_max_7cf53 cJ9_max_7cf53 2 (some .int) ∈ lw_ok := (lw_okof 836 qw_836 rfl)
theorem pn_java_lang_Math : ("java/lang/Math" : String) ≠ "java/lang/invoke/MethodHandle" ∧ ("java/lang/Math" : String) ≠ "java/lang/invoke/VarHandle" := by decide +kernel
theorem wd_J9_max_7cf53 : yJ9_max_7cf53.cls ≠ "java/lang/invoke/MethodHandle" ∧ yJ9_max_7cf53.cls ≠ "java/lang/invoke/VarHandle" ∧ (parseMethodDescriptor yJ9_max_7cf53.desc).map (fun d => d.parameters.length) = some 2 := ⟨pn_java_lang_Math.1, pn_java_lang_Math.2, pd_3⟩
theorem wt_J9_max_7cf53 : Cond.static yJ9_max_7cf53 ∈ lw_ok := (lw_okof 835 qw_835 rfl)
theorem kRX1_51 : dnLS RX1 51 2 yJ9_max_7cf53 cJ9_max_7cf53 2 (some .int) := ⟨(lw_okof 1223 qw_1223 rfl), wt_J9_max_7cf53, wn_java_lang_Math, wc_J9_max_7cf53, wd_J9_max_7cf53⟩
theorem kRX2_3 : Cond.methodLink RX2 3 Lib.objectInit ∈ lw_ok := (lw_okof 210 qw_210 rfl)
theorem kRX3_3 : Cond.methodLink RX3 3 Lib.objectInit ∈ lw_ok := (lw_okof 352 qw_352 rfl)
theorem wc_X3_endOfSpaces : Cond.code yX3_endOfSpaces cX3_endOfSpaces 2 (some .int) ∈ lw_ok := (lw_okof 1057 qw_1057 rfl)
theorem wd_X3_endOfSpaces : yX3_endOfSpaces.cls ≠ "java/lang/invoke/MethodHandle" ∧ yX3_endOfSpaces.cls ≠ "java/lang/invoke/VarHandle" ∧ (parseMethodDescriptor yX3_endOfSpaces.desc).map (fun d => d.parameters.length) = some 1 := ⟨pn_KindGrids_PlanText.1, pn_KindGrids_PlanText.2, pd_4⟩
theorem wi_X3_endOfSpaces : Cond.instanceMethod yX3_endOfSpaces ∈ lw_ok := (lw_okof 1055 qw_1055 rfl)
theorem ws_X3_endOfSpaces : Cond.selects yX3_endOfSpaces.cls yX3_endOfSpaces yX3_endOfSpaces ∈ lw_ok := (lw_okof 1056 qw_1056 rfl)
theorem kRX3_30 : dnLV RX3 30 1 2 yX3_endOfSpaces cX3_endOfSpaces 2 (some .int) := ⟨(lw_okof 1054 qw_1054 rfl), wi_X3_endOfSpaces, ws_X3_endOfSpaces, wn_KindGrids_PlanText, wc_X3_endOfSpaces, wd_X3_endOfSpaces, by decide, _, rfl, rfl⟩
theorem wc_X3_wordAt : Cond.code yX3_wordAt cX3_wordAt 4 (some .int) ∈ lw_ok := (lw_okof 1065 qw_1065 rfl)
theorem wd_X3_wordAt : yX3_wordAt.cls ≠ "java/lang/invoke/MethodHandle" ∧ yX3_wordAt.cls ≠ "java/lang/invoke/VarHandle" ∧ (parseMethodDescriptor yX3_wordAt.desc).map (fun d => d.parameters.length) = some 1 := ⟨pn_KindGrids_PlanText.1, pn_KindGrids_PlanText.2, pd_4⟩
theorem wi_X3_wordAt : Cond.instanceMethod yX3_wordAt ∈ lw_ok := (lw_okof 1063 qw_1063 rfl)
theorem ws_X3_wordAt : Cond.selects yX3_wordAt.cls yX3_wordAt yX3_wordAt ∈ lw_ok := (lw_okof 1064 qw_1064 rfl)
theorem kRX3_34 : dnLV RX3 34 1 2 yX3_wordAt cX3_wordAt 4 (some .int) := ⟨(lw_okof 1062 qw_1062 rfl), wi_X3_wordAt, ws_X3_wordAt, wn_KindGrids_PlanText, wc_X3_wordAt, wd_X3_wordAt, by decide, _, rfl, rfl⟩
theorem wc_X3_endOfLetters : Cond.code yX3_endOfLetters cX3_endOfLetters 2 (some .int) ∈ lw_ok := (lw_okof 1069 qw_1069 rfl)
theorem wd_X3_endOfLetters : yX3_endOfLetters.cls ≠ "java/lang/invoke/MethodHandle" ∧ yX3_endOfLetters.cls ≠ "java/lang/invoke/VarHandle" ∧ (parseMethodDescriptor yX3_endOfLetters.desc).map (fun d => d.parameters.length) = some 1 := ⟨pn_KindGrids_PlanText.1, pn_KindGrids_PlanText.2, pd_4⟩
theorem wi_X3_endOfLetters : Cond.instanceMethod yX3_endOfLetters ∈ lw_ok := (lw_okof 1067 qw_1067 rfl)
theorem ws_X3_endOfLetters : Cond.selects yX3_endOfLetters.cls yX3_endOfLetters yX3_endOfLetters ∈ lw_ok := (lw_okof 1068 qw_1068 rfl)
theorem kRX3_37 : dnLV RX3 37 1 2 yX3_endOfLetters cX3_endOfLetters 2 (some .int) := ⟨(lw_okof 1066 qw_1066 rfl), wi_X3_endOfLetters, ws_X3_endOfLetters, wn_KindGrids_PlanText, wc_X3_endOfLetters, wd_X3_endOfLetters, by decide, _, rfl, rfl⟩
theorem wc_X3_endOfDigits : Cond.code yX3_endOfDigits cX3_endOfDigits 2 (some .int) ∈ lw_ok := (lw_okof 1127 qw_1127 rfl)
theorem wd_X3_endOfDigits : yX3_endOfDigits.cls ≠ "java/lang/invoke/MethodHandle" ∧ yX3_endOfDigits.cls ≠ "java/lang/invoke/VarHandle" ∧ (parseMethodDescriptor yX3_endOfDigits.desc).map (fun d => d.parameters.length) = some 1 := ⟨pn_KindGrids_PlanText.1, pn_KindGrids_PlanText.2, pd_4⟩
theorem wi_X3_endOfDigits : Cond.instanceMethod yX3_endOfDigits ∈ lw_ok := (lw_okof 1125 qw_1125 rfl)
theorem ws_X3_endOfDigits : Cond.selects yX3_endOfDigits.cls yX3_endOfDigits yX3_endOfDigits ∈ lw_ok := (lw_okof 1126 qw_1126 rfl)
theorem kRX3_44 : dnLV RX3 44 1 2 yX3_endOfDigits cX3_endOfDigits 2 (some .int) := ⟨(lw_okof 1124 qw_1124 rfl), wi_X3_endOfDigits, ws_X3_endOfDigits, wn_KindGrids_PlanText, wc_X3_endOfDigits, wd_X3_endOfDigits, by decide, _, rfl, rfl⟩
theorem wc_X3_numberIn : Cond.code yX3_numberIn cX3_numberIn 5 (some .int) ∈ lw_ok := (lw_okof 1131 qw_1131 rfl)
theorem wd_X3_numberIn : yX3_numberIn.cls ≠ "java/lang/invoke/MethodHandle" ∧ yX3_numberIn.cls ≠ "java/lang/invoke/VarHandle" ∧ (parseMethodDescriptor yX3_numberIn.desc).map (fun d => d.parameters.length) = some 2 := ⟨pn_KindGrids_PlanText.1, pn_KindGrids_PlanText.2, pd_3⟩
theorem wi_X3_numberIn : Cond.instanceMethod yX3_numberIn ∈ lw_ok := (lw_okof 1129 qw_1129 rfl)
theorem ws_X3_numberIn : Cond.selects yX3_numberIn.cls yX3_numberIn yX3_numberIn ∈ lw_ok := (lw_okof 1130 qw_1130 rfl)
theorem kRX3_47 : dnLV RX3 47 2 2 yX3_numberIn cX3_numberIn 5 (some .int) := ⟨(lw_okof 1128 qw_1128 rfl), wi_X3_numberIn, ws_X3_numberIn, wn_KindGrids_PlanText, wc_X3_numberIn, wd_X3_numberIn, by decide, _, rfl, rfl⟩
theorem wc_X3_standsAt : Cond.code yX3_standsAt cX3_standsAt 4 (some .boolean) ∈ lw_ok := (lw_okof 1085 qw_1085 rfl)
theorem pd_17 : (parseMethodDescriptor "(Ljava/lang/String;I)Z").map (fun d => d.parameters.length) = some 2 := by decide +kernel
theorem wd_X3_standsAt : yX3_standsAt.cls ≠ "java/lang/invoke/MethodHandle" ∧ yX3_standsAt.cls ≠ "java/lang/invoke/VarHandle" ∧ (parseMethodDescriptor yX3_standsAt.desc).map (fun d => d.parameters.length) = some 2 := ⟨pn_KindGrids_PlanText.1, pn_KindGrids_PlanText.2, pd_17⟩
theorem wi_X3_standsAt : Cond.instanceMethod yX3_standsAt ∈ lw_ok := (lw_okof 1083 qw_1083 rfl)
theorem ws_X3_standsAt : Cond.selects yX3_standsAt.cls yX3_standsAt yX3_standsAt ∈ lw_ok := (lw_okof 1084 qw_1084 rfl)
theorem kRX3_60 : dnLV RX3 60 2 2 yX3_standsAt cX3_standsAt 4 (some .boolean) := ⟨(lw_okof 1082 qw_1082 rfl), wi_X3_standsAt, ws_X3_standsAt, wn_KindGrids_PlanText, wc_X3_standsAt, wd_X3_standsAt, by decide, _, rfl, rfl⟩
theorem wc_X3_endOfRun : Cond.code yX3_endOfRun cX3_endOfRun 5 (some .int) ∈ lw_ok := (lw_okof 1061 qw_1061 rfl)
theorem pd_18 : (parseMethodDescriptor "(ICC)I").map (fun d => d.parameters.length) = some 3 := by decide +kernel
theorem wd_X3_endOfRun : yX3_endOfRun.cls ≠ "java/lang/invoke/MethodHandle" ∧ yX3_endOfRun.cls ≠ "java/lang/invoke/VarHandle" ∧ (parseMethodDescriptor yX3_endOfRun.desc).map (fun d => d.parameters.length) = some 3 := ⟨pn_KindGrids_PlanText.1, pn_KindGrids_PlanText.2, pd_18⟩
theorem wi_X3_endOfRun : Cond.instanceMethod yX3_endOfRun ∈ lw_ok := (lw_okof 1059 qw_1059 rfl)
theorem ws_X3_endOfRun : Cond.selects yX3_endOfRun.cls yX3_endOfRun yX3_endOfRun ∈ lw_ok := (lw_okof 1060 qw_1060 rfl)
theorem kRX3_68 : dnLV RX3 68 3 2 yX3_endOfRun cX3_endOfRun 5 (some .int) := ⟨(lw_okof 1058 qw_1058 rfl), wi_X3_endOfRun, ws_X3_endOfRun, wn_KindGrids_PlanText, wc_X3_endOfRun, wd_X3_endOfRun, by decide, _, rfl, rfl⟩
theorem kRX4_3 : Cond.methodLink RX4 3 Lib.objectInit ∈ lw_ok := (lw_okof 325 qw_325 rfl)
theorem kRX4_9 : Cond.classLink RX4 9 RX5 ∈ lw_ok := (lw_okof 326 qw_326 rfl)
theorem wn_KindGrids_Row : Cond.initialized "KindGrids$Row" ∈ lw_ok := (lw_okof 107 qw_107 rfl)
theorem wc_X5_init : Cond.code yX5_init cX5_init 2 none ∈ lw_ok := (lw_okof 147 qw_147 rfl)
theorem pd_19 : (parseMethodDescriptor "(I)V").map (fun d => d.parameters.length) = some 1 := by decide +kernel
theorem pn_KindGrids_Row : ("KindGrids$Row" : String) ≠ "java/lang/invoke/MethodHandle" ∧ ("KindGrids$Row" : String) ≠ "java/lang/invoke/VarHandle" := by decide +kernel
theorem wd_X5_init : yX5_init.cls ≠ "java/lang/invoke/MethodHandle" ∧ yX5_init.cls ≠ "java/lang/invoke/VarHandle" ∧ (parseMethodDescriptor yX5_init.desc).map (fun d => d.parameters.length) = some 1 := ⟨pn_KindGrids_Row.1, pn_KindGrids_Row.2, pd_19⟩
theorem wi_X5_init : Cond.instanceMethod yX5_init ∈ lw_ok := (lw_okof 146 qw_146 rfl)
theorem kRX4_11 : dnLI RX4 11 1 yX5_init cX5_init 2 := ⟨(lw_okof 327 qw_327 rfl), wi_X5_init, wn_KindGrids_Row, wc_X5_init, rfl, wd_X5_init⟩
theorem wc_X9_rowAt : Cond.code yX9_rowAt cX9_rowAt 4 (some (.object "KindGrids$Row")) ∈ lw_ok := (lw_okof 528 qw_528 rfl)
theorem pd_20 : (parseMethodDescriptor "(II)LKindGrids$Row;").map (fun d => d.parameters.length) = some 2 := by decide +kernel
theorem wd_X9_rowAt : yX9_rowAt.cls ≠ "java/lang/invoke/MethodHandle" ∧ yX9_rowAt.cls ≠ "java/lang/invoke/VarHandle" ∧ (parseMethodDescriptor yX9_rowAt.desc).map (fun d => d.parameters.length) = some 2 := ⟨pn_KindGrids_Store.1, pn_KindGrids_Store.2, pd_20⟩
theorem wi_X9_rowAt : Cond.instanceMethod yX9_rowAt ∈ lw_ok := (lw_okof 526 qw_526 rfl)
theorem ws_X9_rowAt : Cond.selects yX9_rowAt.cls yX9_rowAt yX9_rowAt ∈ lw_ok := (lw_okof 527 qw_527 rfl)
theorem kRX4_35 : dnLV RX4 35 2 7 yX9_rowAt cX9_rowAt 4 (some (.object "KindGrids$Row")) := ⟨(lw_okof 955 qw_955 rfl), wi_X9_rowAt, ws_X9_rowAt, wn_KindGrids_Store, wc_X9_rowAt, wd_X9_rowAt, by decide, _, rfl, rfl⟩
theorem wc_X9_rowFault : Cond.code yX9_rowFault cX9_rowFault 4 (some .int) ∈ lw_ok := (lw_okof 553 qw_553 rfl)
theorem wd_X9_rowFault : yX9_rowFault.cls ≠ "java/lang/invoke/MethodHandle" ∧ yX9_rowFault.cls ≠ "java/lang/invoke/VarHandle" ∧ (parseMethodDescriptor yX9_rowFault.desc).map (fun d => d.parameters.length) = some 2 := ⟨pn_KindGrids_Store.1, pn_KindGrids_Store.2, pd_3⟩
theorem wi_X9_rowFault : Cond.instanceMethod yX9_rowFault ∈ lw_ok := (lw_okof 551 qw_551 rfl)
theorem ws_X9_rowFault : Cond.selects yX9_rowFault.cls yX9_rowFault yX9_rowFault ∈ lw_ok := (lw_okof 552 qw_552 rfl)
theorem kRX4_41 : dnLV RX4 41 2 7 yX9_rowFault cX9_rowFault 4 (some .int) := ⟨(lw_okof 956 qw_956 rfl), wi_X9_rowFault, ws_X9_rowFault, wn_KindGrids_Store, wc_X9_rowFault, wd_X9_rowFault, by decide, _, rfl, rfl⟩
theorem wc_X5_hasCell : Cond.code yX5_hasCell cX5_hasCell 2 (some .boolean) ∈ lw_ok := (lw_okof 576 qw_576 rfl)
theorem wd_X5_hasCell : yX5_hasCell.cls ≠ "java/lang/invoke/MethodHandle" ∧ yX5_hasCell.cls ≠ "java/lang/invoke/VarHandle" ∧ (parseMethodDescriptor yX5_hasCell.desc).map (fun d => d.parameters.length) = some 1 := ⟨pn_KindGrids_Row.1, pn_KindGrids_Row.2, pd_13⟩
theorem wi_X5_hasCell : Cond.instanceMethod yX5_hasCell ∈ lw_ok := (lw_okof 574 qw_574 rfl)
theorem ws_X5_hasCell : Cond.selects yX5_hasCell.cls yX5_hasCell yX5_hasCell ∈ lw_ok := (lw_okof 575 qw_575 rfl)
theorem kRX4_45 : dnLV RX4 45 1 4 yX5_hasCell cX5_hasCell 2 (some .boolean) := ⟨(lw_okof 957 qw_957 rfl), wi_X5_hasCell, ws_X5_hasCell, wn_KindGrids_Row, wc_X5_hasCell, wd_X5_hasCell, by decide, _, rfl, rfl⟩
theorem wn_java_util_Arrays : Cond.initialized "java/util/Arrays" ∈ lw_ok := (lw_okof 106 qw_106 rfl)
theorem wc_J7_fill_53178 : Cond.code yJ7_fill_53178 cJ7_fill_53178 4 none ∈ lw_ok := (lw_okof 143 qw_143 rfl)
theorem pd_21 : (parseMethodDescriptor "([II)V").map (fun d => d.parameters.length) = some 2 := by decide +kernel
theorem pn_java_util_Arrays : ("java/util/Arrays" : String) ≠ "java/lang/invoke/MethodHandle" ∧ ("java/util/Arrays" : String) ≠ "java/lang/invoke/VarHandle" := by decide +kernel
theorem wd_J7_fill_53178 : yJ7_fill_53178.cls ≠ "java/lang/invoke/MethodHandle" ∧ yJ7_fill_53178.cls ≠ "java/lang/invoke/VarHandle" ∧ (parseMethodDescriptor yJ7_fill_53178.desc).map (fun d => d.parameters.length) = some 2 := ⟨pn_java_util_Arrays.1, pn_java_util_Arrays.2, pd_21⟩
theorem wt_J7_fill_53178 : Cond.static yJ7_fill_53178 ∈ lw_ok := (lw_okof 142 qw_142 rfl)
theorem kRX4_49 : dnLS RX4 49 2 yJ7_fill_53178 cJ7_fill_53178 4 none := ⟨(lw_okof 958 qw_958 rfl), wt_J7_fill_53178, wn_java_util_Arrays, wc_J7_fill_53178, wd_J7_fill_53178⟩
theorem wc_X4_spread : Cond.code yX4_spread cX4_spread 7 none ∈ lw_ok := (lw_okof 962 qw_962 rfl)
theorem pd_22 : (parseMethodDescriptor "(III)V").map (fun d => d.parameters.length) = some 3 := by decide +kernel
theorem wd_X4_spread : yX4_spread.cls ≠ "java/lang/invoke/MethodHandle" ∧ yX4_spread.cls ≠ "java/lang/invoke/VarHandle" ∧ (parseMethodDescriptor yX4_spread.desc).map (fun d => d.parameters.length) = some 3 := ⟨pn_KindGrids_Regions.1, pn_KindGrids_Regions.2, pd_22⟩
theorem wi_X4_spread : Cond.instanceMethod yX4_spread ∈ lw_ok := (lw_okof 960 qw_960 rfl)
theorem ws_X4_spread : Cond.selects yX4_spread.cls yX4_spread yX4_spread ∈ lw_ok := (lw_okof 961 qw_961 rfl)
theorem kRX4_55 : dnLV RX4 55 3 3 yX4_spread cX4_spread 7 none := ⟨(lw_okof 959 qw_959 rfl), wi_X4_spread, ws_X4_spread, wn_KindGrids_Regions, wc_X4_spread, wd_X4_spread, by decide, _, rfl, rfl⟩
theorem wc_J9_min_7cf53 : Cond.code yJ9_min_7cf53 cJ9_min_7cf53 2 (some .int) ∈ lw_ok := (lw_okof 812 qw_812 rfl)
theorem wd_J9_min_7cf53 : yJ9_min_7cf53.cls ≠ "java/lang/invoke/MethodHandle" ∧ yJ9_min_7cf53.cls ≠ "java/lang/invoke/VarHandle" ∧ (parseMethodDescriptor yJ9_min_7cf53.desc).map (fun d => d.parameters.length) = some 2 := ⟨pn_java_lang_Math.1, pn_java_lang_Math.2, pd_3⟩
theorem wt_J9_min_7cf53 : Cond.static yJ9_min_7cf53 ∈ lw_ok := (lw_okof 811 qw_811 rfl)
theorem kRX4_63 : dnLS RX4 63 2 yJ9_min_7cf53 cJ9_min_7cf53 2 (some .int) := ⟨(lw_okof 972 qw_972 rfl), wt_J9_min_7cf53, wn_java_lang_Math, wc_J9_min_7cf53, wd_J9_min_7cf53⟩
theorem wc_X4_reach : Cond.code yX4_reach cX4_reach 3 none ∈ lw_ok := (lw_okof 966 qw_966 rfl)
theorem pd_23 : (parseMethodDescriptor "(II)V").map (fun d => d.parameters.length) = some 2 := by decide +kernel
theorem wd_X4_reach : yX4_reach.cls ≠ "java/lang/invoke/MethodHandle" ∧ yX4_reach.cls ≠ "java/lang/invoke/VarHandle" ∧ (parseMethodDescriptor yX4_reach.desc).map (fun d => d.parameters.length) = some 2 := ⟨pn_KindGrids_Regions.1, pn_KindGrids_Regions.2, pd_23⟩
theorem wi_X4_reach : Cond.instanceMethod yX4_reach ∈ lw_ok := (lw_okof 964 qw_964 rfl)
theorem ws_X4_reach : Cond.selects yX4_reach.cls yX4_reach yX4_reach ∈ lw_ok := (lw_okof 965 qw_965 rfl)
theorem kRX4_74 : dnLV RX4 74 2 3 yX4_reach cX4_reach 3 none := ⟨(lw_okof 963 qw_963 rfl), wi_X4_reach, ws_X4_reach, wn_KindGrids_Regions, wc_X4_reach, wd_X4_reach, by decide, _, rfl, rfl⟩
theorem wc_X4_tryStep : Cond.code yX4_tryStep cX4_tryStep 7 none ∈ lw_ok := (lw_okof 970 qw_970 rfl)
theorem pd_24 : (parseMethodDescriptor "(IIII)V").map (fun d => d.parameters.length) = some 4 := by decide +kernel
theorem wd_X4_tryStep : yX4_tryStep.cls ≠ "java/lang/invoke/MethodHandle" ∧ yX4_tryStep.cls ≠ "java/lang/invoke/VarHandle" ∧ (parseMethodDescriptor yX4_tryStep.desc).map (fun d => d.parameters.length) = some 4 := ⟨pn_KindGrids_Regions.1, pn_KindGrids_Regions.2, pd_24⟩
theorem wi_X4_tryStep : Cond.instanceMethod yX4_tryStep ∈ lw_ok := (lw_okof 968 qw_968 rfl)
theorem ws_X4_tryStep : Cond.selects yX4_tryStep.cls yX4_tryStep yX4_tryStep ∈ lw_ok := (lw_okof 969 qw_969 rfl)
theorem kRX4_78 : dnLV RX4 78 4 3 yX4_tryStep cX4_tryStep 7 none := ⟨(lw_okof 967 qw_967 rfl), wi_X4_tryStep, ws_X4_tryStep, wn_KindGrids_Regions, wc_X4_tryStep, wd_X4_tryStep, by decide, _, rfl, rfl⟩
theorem wc_X5_matches : Cond.code yX5_matches cX5_matches 6 (some .boolean) ∈ lw_ok := (lw_okof 657 qw_657 rfl)
theorem pd_25 : (parseMethodDescriptor "(ILKindGrids$Row;I)Z").map (fun d => d.parameters.length) = some 3 := by decide +kernel
theorem wd_X5_matches : yX5_matches.cls ≠ "java/lang/invoke/MethodHandle" ∧ yX5_matches.cls ≠ "java/lang/invoke/VarHandle" ∧ (parseMethodDescriptor yX5_matches.desc).map (fun d => d.parameters.length) = some 3 := ⟨pn_KindGrids_Row.1, pn_KindGrids_Row.2, pd_25⟩
theorem wi_X5_matches : Cond.instanceMethod yX5_matches ∈ lw_ok := (lw_okof 655 qw_655 rfl)
theorem ws_X5_matches : Cond.selects yX5_matches.cls yX5_matches yX5_matches ∈ lw_ok := (lw_okof 656 qw_656 rfl)
theorem kRX4_82 : dnLV RX4 82 3 4 yX5_matches cX5_matches 6 (some .boolean) := ⟨(lw_okof 971 qw_971 rfl), wi_X5_matches, ws_X5_matches, wn_KindGrids_Row, wc_X5_matches, wd_X5_matches, by decide, _, rfl, rfl⟩
theorem wc_X9_gridFault : Cond.code yX9_gridFault cX9_gridFault 2 (some .int) ∈ lw_ok := (lw_okof 458 qw_458 rfl)
theorem wd_X9_gridFault : yX9_gridFault.cls ≠ "java/lang/invoke/MethodHandle" ∧ yX9_gridFault.cls ≠ "java/lang/invoke/VarHandle" ∧ (parseMethodDescriptor yX9_gridFault.desc).map (fun d => d.parameters.length) = some 1 := ⟨pn_KindGrids_Store.1, pn_KindGrids_Store.2, pd_4⟩
theorem wi_X9_gridFault : Cond.instanceMethod yX9_gridFault ∈ lw_ok := (lw_okof 456 qw_456 rfl)
theorem ws_X9_gridFault : Cond.selects yX9_gridFault.cls yX9_gridFault yX9_gridFault ∈ lw_ok := (lw_okof 457 qw_457 rfl)
theorem kRX4_86 : dnLV RX4 86 1 7 yX9_gridFault cX9_gridFault 2 (some .int) := ⟨(lw_okof 981 qw_981 rfl), wi_X9_gridFault, ws_X9_gridFault, wn_KindGrids_Store, wc_X9_gridFault, wd_X9_gridFault, by decide, _, rfl, rfl⟩
theorem wc_X9_cellsAt : Cond.code yX9_cellsAt cX9_cellsAt 4 (some .int) ∈ lw_ok := (lw_okof 833 qw_833 rfl)
theorem wd_X9_cellsAt : yX9_cellsAt.cls ≠ "java/lang/invoke/MethodHandle" ∧ yX9_cellsAt.cls ≠ "java/lang/invoke/VarHandle" ∧ (parseMethodDescriptor yX9_cellsAt.desc).map (fun d => d.parameters.length) = some 2 := ⟨pn_KindGrids_Store.1, pn_KindGrids_Store.2, pd_3⟩
theorem wi_X9_cellsAt : Cond.instanceMethod yX9_cellsAt ∈ lw_ok := (lw_okof 831 qw_831 rfl)
theorem ws_X9_cellsAt : Cond.selects yX9_cellsAt.cls yX9_cellsAt yX9_cellsAt ∈ lw_ok := (lw_okof 832 qw_832 rfl)
theorem kRX4_93 : dnLV RX4 93 2 7 yX9_cellsAt cX9_cellsAt 4 (some .int) := ⟨(lw_okof 982 qw_982 rfl), wi_X9_cellsAt, ws_X9_cellsAt, wn_KindGrids_Store, wc_X9_cellsAt, wd_X9_cellsAt, by decide, _, rfl, rfl⟩
theorem kRX4_96 : dnLS RX4 96 2 yJ9_max_7cf53 cJ9_max_7cf53 2 (some .int) := ⟨(lw_okof 983 qw_983 rfl), wt_J9_max_7cf53, wn_java_lang_Math, wc_J9_max_7cf53, wd_J9_max_7cf53⟩
theorem wc_X12_isGrid : Cond.code yX12_isGrid cX12_isGrid 1 (some .boolean) ∈ lw_ok := (lw_okof 434 qw_434 rfl)
theorem wd_X12_isGrid : yX12_isGrid.cls ≠ "java/lang/invoke/MethodHandle" ∧ yX12_isGrid.cls ≠ "java/lang/invoke/VarHandle" ∧ (parseMethodDescriptor yX12_isGrid.desc).map (fun d => d.parameters.length) = some 1 := ⟨pn_KindGrids.1, pn_KindGrids.2, pd_13⟩
theorem wt_X12_isGrid : Cond.static yX12_isGrid ∈ lw_ok := (lw_okof 433 qw_433 rfl)
theorem kRX4_99 : dnLSN RX4 RX12 99 1 yX12_isGrid cX12_isGrid 1 (some .boolean) := ⟨(lw_nestof 992 qw_992 rfl), wt_X12_isGrid, wn_KindGrids, wc_X12_isGrid, wd_X12_isGrid⟩
theorem wc_X12_isSort : Cond.code yX12_isSort cX12_isSort 1 (some .boolean) ∈ lw_ok := (lw_okof 629 qw_629 rfl)
theorem wd_X12_isSort : yX12_isSort.cls ≠ "java/lang/invoke/MethodHandle" ∧ yX12_isSort.cls ≠ "java/lang/invoke/VarHandle" ∧ (parseMethodDescriptor yX12_isSort.desc).map (fun d => d.parameters.length) = some 1 := ⟨pn_KindGrids.1, pn_KindGrids.2, pd_13⟩
theorem wt_X12_isSort : Cond.static yX12_isSort ∈ lw_ok := (lw_okof 628 qw_628 rfl)
theorem kRX4_102 : dnLSN RX4 RX12 102 1 yX12_isSort cX12_isSort 1 (some .boolean) := ⟨(lw_nestof 993 qw_993 rfl), wt_X12_isSort, wn_KindGrids, wc_X12_isSort, wd_X12_isSort⟩
theorem wc_X5_become : Cond.code yX5_become cX5_become 4 none ∈ lw_ok := (lw_okof 633 qw_633 rfl)
theorem pd_26 : (parseMethodDescriptor "(IJ)V").map (fun d => d.parameters.length) = some 2 := by decide +kernel
theorem wd_X5_become : yX5_become.cls ≠ "java/lang/invoke/MethodHandle" ∧ yX5_become.cls ≠ "java/lang/invoke/VarHandle" ∧ (parseMethodDescriptor yX5_become.desc).map (fun d => d.parameters.length) = some 2 := ⟨pn_KindGrids_Row.1, pn_KindGrids_Row.2, pd_26⟩
theorem wi_X5_become : Cond.instanceMethod yX5_become ∈ lw_ok := (lw_okof 631 qw_631 rfl)
theorem ws_X5_become : Cond.selects yX5_become.cls yX5_become yX5_become ∈ lw_ok := (lw_okof 632 qw_632 rfl)
theorem kRX4_105 : dnLV RX4 105 2 4 yX5_become cX5_become 4 none := ⟨(lw_okof 994 qw_994 rfl), wi_X5_become, ws_X5_become, wn_KindGrids_Row, wc_X5_become, wd_X5_become, by decide, _, rfl, rfl⟩
theorem wc_X5_accept : Cond.code yX5_accept cX5_accept 5 (some .boolean) ∈ lw_ok := (lw_okof 592 qw_592 rfl)
theorem wd_X5_accept : yX5_accept.cls ≠ "java/lang/invoke/MethodHandle" ∧ yX5_accept.cls ≠ "java/lang/invoke/VarHandle" ∧ (parseMethodDescriptor yX5_accept.desc).map (fun d => d.parameters.length) = some 3 := ⟨pn_KindGrids_Row.1, pn_KindGrids_Row.2, pd_25⟩
theorem wi_X5_accept : Cond.instanceMethod yX5_accept ∈ lw_ok := (lw_okof 590 qw_590 rfl)
theorem ws_X5_accept : Cond.selects yX5_accept.cls yX5_accept yX5_accept ∈ lw_ok := (lw_okof 591 qw_591 rfl)
theorem kRX4_109 : dnLV RX4 109 3 4 yX5_accept cX5_accept 5 (some .boolean) := ⟨(lw_okof 995 qw_995 rfl), wi_X5_accept, ws_X5_accept, wn_KindGrids_Row, wc_X5_accept, wd_X5_accept, by decide, _, rfl, rfl⟩
theorem kRX5_3 : Cond.methodLink RX5 3 Lib.objectInit ∈ lw_ok := (lw_okof 148 qw_148 rfl)
theorem kRX5_33 : dnLS RX5 33 2 yJ7_fill_53178 cJ7_fill_53178 4 none := ⟨(lw_okof 490 qw_490 rfl), wt_J7_fill_53178, wn_java_util_Arrays, wc_J7_fill_53178, wd_J7_fill_53178⟩
theorem wc_J7_fill_d0a16 : Cond.code yJ7_fill_d0a16 cJ7_fill_d0a16 5 none ∈ lw_ok := (lw_okof 493 qw_493 rfl)
theorem pd_27 : (parseMethodDescriptor "([JJ)V").map (fun d => d.parameters.length) = some 2 := by decide +kernel
theorem wd_J7_fill_d0a16 : yJ7_fill_d0a16.cls ≠ "java/lang/invoke/MethodHandle" ∧ yJ7_fill_d0a16.cls ≠ "java/lang/invoke/VarHandle" ∧ (parseMethodDescriptor yJ7_fill_d0a16.desc).map (fun d => d.parameters.length) = some 2 := ⟨pn_java_util_Arrays.1, pn_java_util_Arrays.2, pd_27⟩
theorem wt_J7_fill_d0a16 : Cond.static yJ7_fill_d0a16 ∈ lw_ok := (lw_okof 492 qw_492 rfl)
theorem kRX5_39 : dnLS RX5 39 2 yJ7_fill_d0a16 cJ7_fill_d0a16 5 none := ⟨(lw_okof 491 qw_491 rfl), wt_J7_fill_d0a16, wn_java_util_Arrays, wc_J7_fill_d0a16, wd_J7_fill_d0a16⟩
theorem wc_J7_fill_7f8df : Cond.code yJ7_fill_7f8df cJ7_fill_7f8df 5 none ∈ lw_ok := (lw_okof 496 qw_496 rfl)
theorem pd_28 : (parseMethodDescriptor "([DD)V").map (fun d => d.parameters.length) = some 2 := by decide +kernel
theorem wd_J7_fill_7f8df : yJ7_fill_7f8df.cls ≠ "java/lang/invoke/MethodHandle" ∧ yJ7_fill_7f8df.cls ≠ "java/lang/invoke/VarHandle" ∧ (parseMethodDescriptor yJ7_fill_7f8df.desc).map (fun d => d.parameters.length) = some 2 := ⟨pn_java_util_Arrays.1, pn_java_util_Arrays.2, pd_28⟩
theorem wt_J7_fill_7f8df : Cond.static yJ7_fill_7f8df ∈ lw_ok := (lw_okof 495 qw_495 rfl)
theorem kRX5_42 : dnLS RX5 42 2 yJ7_fill_7f8df cJ7_fill_7f8df 5 none := ⟨(lw_okof 494 qw_494 rfl), wt_J7_fill_7f8df, wn_java_util_Arrays, wc_J7_fill_7f8df, wd_J7_fill_7f8df⟩
theorem kRX5_45 : Cond.methodLink RX5 45 arraycopyName ∈ lw_ok := (lw_okof 723 qw_723 rfl)
theorem wc_X5_begin : Cond.code yX5_begin cX5_begin 3 none ∈ lw_ok := (lw_okof 489 qw_489 rfl)
theorem wd_X5_begin : yX5_begin.cls ≠ "java/lang/invoke/MethodHandle" ∧ yX5_begin.cls ≠ "java/lang/invoke/VarHandle" ∧ (parseMethodDescriptor yX5_begin.desc).map (fun d => d.parameters.length) = some 2 := ⟨pn_KindGrids_Row.1, pn_KindGrids_Row.2, pd_23⟩
theorem wi_X5_begin : Cond.instanceMethod yX5_begin ∈ lw_ok := (lw_okof 487 qw_487 rfl)
theorem ws_X5_begin : Cond.selects yX5_begin.cls yX5_begin yX5_begin ∈ lw_ok := (lw_okof 488 qw_488 rfl)
theorem kRX5_51 : dnLV RX5 51 2 4 yX5_begin cX5_begin 3 none := ⟨(lw_okof 634 qw_634 rfl), wi_X5_begin, ws_X5_begin, wn_KindGrids_Row, wc_X5_begin, wd_X5_begin, by decide, _, rfl, rfl⟩
theorem wc_X12_narrowed : Cond.code yX12_narrowed cX12_narrowed 3 (some .long) ∈ lw_ok := (lw_okof 637 qw_637 rfl)
theorem pd_29 : (parseMethodDescriptor "(IJ)J").map (fun d => d.parameters.length) = some 2 := by decide +kernel
theorem wd_X12_narrowed : yX12_narrowed.cls ≠ "java/lang/invoke/MethodHandle" ∧ yX12_narrowed.cls ≠ "java/lang/invoke/VarHandle" ∧ (parseMethodDescriptor yX12_narrowed.desc).map (fun d => d.parameters.length) = some 2 := ⟨pn_KindGrids.1, pn_KindGrids.2, pd_29⟩
theorem wt_X12_narrowed : Cond.static yX12_narrowed ∈ lw_ok := (lw_okof 636 qw_636 rfl)
theorem kRX5_55 : dnLSN RX5 RX12 55 2 yX12_narrowed cX12_narrowed 3 (some .long) := ⟨(lw_nestof 635 qw_635 rfl), wt_X12_narrowed, wn_KindGrids, wc_X12_narrowed, wd_X12_narrowed⟩
theorem kRX5_59 : Cond.constantFloat RX5 59 (1090519040 : UInt32) ∈ lw_ok := (lw_okof 638 qw_638 rfl)
theorem kRX5_60 : Cond.constantDouble RX5 60 (4620693217682128896 : UInt64) ∈ lw_ok := (lw_okof 639 qw_639 rfl)
theorem kRX5_62 : Cond.constantLong RX5 62 (3 : Int64) ∈ lw_ok := (lw_okof 640 qw_640 rfl)
theorem kRX5_64 : dnLSN RX5 RX12 64 2 yX12_takes cX12_takes 2 (some .boolean) := ⟨(lw_nestof 593 qw_593 rfl), wt_X12_takes, wn_KindGrids, wc_X12_takes, wd_X12_takes⟩
theorem kRX5_68 : dnLSN RX5 RX12 68 1 yX12_isPlain cX12_isPlain 1 (some .boolean) := ⟨(lw_nestof 594 qw_594 rfl), wt_X12_isPlain, wn_KindGrids, wc_X12_isPlain, wd_X12_isPlain⟩
theorem wc_X12_isReal : Cond.code yX12_isReal cX12_isReal 1 (some .boolean) ∈ lw_ok := (lw_okof 597 qw_597 rfl)
theorem wd_X12_isReal : yX12_isReal.cls ≠ "java/lang/invoke/MethodHandle" ∧ yX12_isReal.cls ≠ "java/lang/invoke/VarHandle" ∧ (parseMethodDescriptor yX12_isReal.desc).map (fun d => d.parameters.length) = some 1 := ⟨pn_KindGrids.1, pn_KindGrids.2, pd_13⟩
theorem wt_X12_isReal : Cond.static yX12_isReal ∈ lw_ok := (lw_okof 596 qw_596 rfl)
theorem kRX5_72 : dnLSN RX5 RX12 72 1 yX12_isReal cX12_isReal 1 (some .boolean) := ⟨(lw_nestof 595 qw_595 rfl), wt_X12_isReal, wn_KindGrids, wc_X12_isReal, wd_X12_isReal⟩
theorem wc_X5_floatAt : Cond.code yX5_floatAt cX5_floatAt 2 (some .float) ∈ lw_ok := (lw_okof 601 qw_601 rfl)
theorem pd_30 : (parseMethodDescriptor "(I)F").map (fun d => d.parameters.length) = some 1 := by decide +kernel
theorem wd_X5_floatAt : yX5_floatAt.cls ≠ "java/lang/invoke/MethodHandle" ∧ yX5_floatAt.cls ≠ "java/lang/invoke/VarHandle" ∧ (parseMethodDescriptor yX5_floatAt.desc).map (fun d => d.parameters.length) = some 1 := ⟨pn_KindGrids_Row.1, pn_KindGrids_Row.2, pd_30⟩
theorem wi_X5_floatAt : Cond.instanceMethod yX5_floatAt ∈ lw_ok := (lw_okof 599 qw_599 rfl)
theorem ws_X5_floatAt : Cond.selects yX5_floatAt.cls yX5_floatAt yX5_floatAt ∈ lw_ok := (lw_okof 600 qw_600 rfl)
theorem kRX5_75 : dnLV RX5 75 1 4 yX5_floatAt cX5_floatAt 2 (some .float) := ⟨(lw_okof 598 qw_598 rfl), wi_X5_floatAt, ws_X5_floatAt, wn_KindGrids_Row, wc_X5_floatAt, wd_X5_floatAt, by decide, _, rfl, rfl⟩
theorem wc_X5_doubleAt : Cond.code yX5_doubleAt cX5_doubleAt 2 (some .double) ∈ lw_ok := (lw_okof 605 qw_605 rfl)
theorem pd_31 : (parseMethodDescriptor "(I)D").map (fun d => d.parameters.length) = some 1 := by decide +kernel
theorem wd_X5_doubleAt : yX5_doubleAt.cls ≠ "java/lang/invoke/MethodHandle" ∧ yX5_doubleAt.cls ≠ "java/lang/invoke/VarHandle" ∧ (parseMethodDescriptor yX5_doubleAt.desc).map (fun d => d.parameters.length) = some 1 := ⟨pn_KindGrids_Row.1, pn_KindGrids_Row.2, pd_31⟩
theorem wi_X5_doubleAt : Cond.instanceMethod yX5_doubleAt ∈ lw_ok := (lw_okof 603 qw_603 rfl)
theorem ws_X5_doubleAt : Cond.selects yX5_doubleAt.cls yX5_doubleAt yX5_doubleAt ∈ lw_ok := (lw_okof 604 qw_604 rfl)
theorem kRX5_79 : dnLV RX5 79 1 4 yX5_doubleAt cX5_doubleAt 2 (some .double) := ⟨(lw_okof 602 qw_602 rfl), wi_X5_doubleAt, ws_X5_doubleAt, wn_KindGrids_Row, wc_X5_doubleAt, wd_X5_doubleAt, by decide, _, rfl, rfl⟩
theorem wc_X12_codeOfReal : Cond.code yX12_codeOfReal cX12_codeOfReal 2 (some .long) ∈ lw_ok := (lw_okof 612 qw_612 rfl)
theorem pd_32 : (parseMethodDescriptor "(D)J").map (fun d => d.parameters.length) = some 1 := by decide +kernel
theorem wd_X12_codeOfReal : yX12_codeOfReal.cls ≠ "java/lang/invoke/MethodHandle" ∧ yX12_codeOfReal.cls ≠ "java/lang/invoke/VarHandle" ∧ (parseMethodDescriptor yX12_codeOfReal.desc).map (fun d => d.parameters.length) = some 1 := ⟨pn_KindGrids.1, pn_KindGrids.2, pd_32⟩
theorem wt_X12_codeOfReal : Cond.static yX12_codeOfReal ∈ lw_ok := (lw_okof 611 qw_611 rfl)
theorem kRX5_83 : dnLSN RX5 RX12 83 1 yX12_codeOfReal cX12_codeOfReal 2 (some .long) := ⟨(lw_nestof 610 qw_610 rfl), wt_X12_codeOfReal, wn_KindGrids, wc_X12_codeOfReal, wd_X12_codeOfReal⟩
theorem wc_X12_isNumber : Cond.code yX12_isNumber cX12_isNumber 1 (some .boolean) ∈ lw_ok := (lw_okof 660 qw_660 rfl)
theorem wd_X12_isNumber : yX12_isNumber.cls ≠ "java/lang/invoke/MethodHandle" ∧ yX12_isNumber.cls ≠ "java/lang/invoke/VarHandle" ∧ (parseMethodDescriptor yX12_isNumber.desc).map (fun d => d.parameters.length) = some 1 := ⟨pn_KindGrids.1, pn_KindGrids.2, pd_13⟩
theorem wt_X12_isNumber : Cond.static yX12_isNumber ∈ lw_ok := (lw_okof 659 qw_659 rfl)
theorem kRX5_87 : dnLSN RX5 RX12 87 1 yX12_isNumber cX12_isNumber 1 (some .boolean) := ⟨(lw_nestof 658 qw_658 rfl), wt_X12_isNumber, wn_KindGrids, wc_X12_isNumber, wd_X12_isNumber⟩
theorem kRX5_90 : dnLSN RX5 RX12 90 2 yX12_readsAs cX12_readsAs 2 (some .boolean) := ⟨(lw_nestof 775 qw_775 rfl), wt_X12_readsAs, wn_KindGrids, wc_X12_readsAs, wd_X12_readsAs⟩
theorem kRX6_3 : Cond.methodLink RX6 3 Lib.objectInit ∈ lw_ok := (lw_okof 238 qw_238 rfl)
theorem kRX6_9 : Cond.classLink RX6 9 RX5 ∈ lw_ok := (lw_okof 239 qw_239 rfl)
theorem kRX6_11 : dnLI RX6 11 1 yX5_init cX5_init 2 := ⟨(lw_okof 240 qw_240 rfl), wi_X5_init, wn_KindGrids_Row, wc_X5_init, rfl, wd_X5_init⟩
theorem kRX6_31 : dnLSN RX6 RX12 31 1 yX12_isGrid cX12_isGrid 1 (some .boolean) := ⟨(lw_nestof 570 qw_570 rfl), wt_X12_isGrid, wn_KindGrids, wc_X12_isGrid, wd_X12_isGrid⟩
theorem kRX6_35 : dnLV RX6 35 2 7 yX9_rowAt cX9_rowAt 4 (some (.object "KindGrids$Row")) := ⟨(lw_okof 571 qw_571 rfl), wi_X9_rowAt, ws_X9_rowAt, wn_KindGrids_Store, wc_X9_rowAt, wd_X9_rowAt, by decide, _, rfl, rfl⟩
theorem kRX6_41 : dnLV RX6 41 2 7 yX9_rowFault cX9_rowFault 4 (some .int) := ⟨(lw_okof 572 qw_572 rfl), wi_X9_rowFault, ws_X9_rowFault, wn_KindGrids_Store, wc_X9_rowFault, wd_X9_rowFault, by decide, _, rfl, rfl⟩
theorem kRX6_45 : dnLV RX6 45 1 4 yX5_hasCell cX5_hasCell 2 (some .boolean) := ⟨(lw_okof 573 qw_573 rfl), wi_X5_hasCell, ws_X5_hasCell, wn_KindGrids_Row, wc_X5_hasCell, wd_X5_hasCell, by decide, _, rfl, rfl⟩
theorem kRX6_52 : dnLSN RX6 RX12 52 2 yX12_readsAs cX12_readsAs 2 (some .boolean) := ⟨(lw_nestof 577 qw_577 rfl), wt_X12_readsAs, wn_KindGrids, wc_X12_readsAs, wd_X12_readsAs⟩
theorem kRX6_56 : dnLV RX6 56 2 4 yX5_begin cX5_begin 3 none := ⟨(lw_okof 588 qw_588 rfl), wi_X5_begin, ws_X5_begin, wn_KindGrids_Row, wc_X5_begin, wd_X5_begin, by decide, _, rfl, rfl⟩
theorem kRX6_60 : dnLV RX6 60 3 4 yX5_accept cX5_accept 5 (some .boolean) := ⟨(lw_okof 589 qw_589 rfl), wi_X5_accept, ws_X5_accept, wn_KindGrids_Row, wc_X5_accept, wd_X5_accept, by decide, _, rfl, rfl⟩
theorem wc_X5_codeAt : Cond.code yX5_codeAt cX5_codeAt 2 (some .long) ∈ lw_ok := (lw_okof 609 qw_609 rfl)
theorem pd_33 : (parseMethodDescriptor "(I)J").map (fun d => d.parameters.length) = some 1 := by decide +kernel
theorem wd_X5_codeAt : yX5_codeAt.cls ≠ "java/lang/invoke/MethodHandle" ∧ yX5_codeAt.cls ≠ "java/lang/invoke/VarHandle" ∧ (parseMethodDescriptor yX5_codeAt.desc).map (fun d => d.parameters.length) = some 1 := ⟨pn_KindGrids_Row.1, pn_KindGrids_Row.2, pd_33⟩
theorem wi_X5_codeAt : Cond.instanceMethod yX5_codeAt ∈ lw_ok := (lw_okof 607 qw_607 rfl)
theorem ws_X5_codeAt : Cond.selects yX5_codeAt.cls yX5_codeAt yX5_codeAt ∈ lw_ok := (lw_okof 608 qw_608 rfl)
theorem kRX6_64 : dnLV RX6 64 1 4 yX5_codeAt cX5_codeAt 2 (some .long) := ⟨(lw_okof 606 qw_606 rfl), wi_X5_codeAt, ws_X5_codeAt, wn_KindGrids_Row, wc_X5_codeAt, wd_X5_codeAt, by decide, _, rfl, rfl⟩
theorem kRX6_78 : dnLSN RX6 RX12 78 1 yX12_isPlain cX12_isPlain 1 (some .boolean) := ⟨(lw_nestof 622 qw_622 rfl), wt_X12_isPlain, wn_KindGrids, wc_X12_isPlain, wd_X12_isPlain⟩
theorem kRX6_81 : dnLV RX6 81 5 5 yX6_putCell cX6_putCell 8 (some .int) := ⟨(lw_okof 623 qw_623 rfl), wi_X6_putCell, ws_X6_putCell, wn_KindGrids_Rows, wc_X6_putCell, wd_X6_putCell, by decide, _, rfl, rfl⟩
theorem kRX6_85 : dnLSN RX6 RX12 85 1 yX12_isSort cX12_isSort 1 (some .boolean) := ⟨(lw_nestof 627 qw_627 rfl), wt_X12_isSort, wn_KindGrids, wc_X12_isSort, wd_X12_isSort⟩
theorem kRX6_88 : dnLV RX6 88 2 4 yX5_become cX5_become 4 none := ⟨(lw_okof 630 qw_630 rfl), wi_X5_become, ws_X5_become, wn_KindGrids_Row, wc_X5_become, wd_X5_become, by decide, _, rfl, rfl⟩
theorem kRX6_95 : dnLV RX6 95 3 4 yX5_matches cX5_matches 6 (some .boolean) := ⟨(lw_okof 654 qw_654 rfl), wi_X5_matches, ws_X5_matches, wn_KindGrids_Row, wc_X5_matches, wd_X5_matches, by decide, _, rfl, rfl⟩
theorem wc_X9_hasPlace : Cond.code yX9_hasPlace cX9_hasPlace 3 (some .boolean) ∈ lw_ok := (lw_okof 477 qw_477 rfl)
theorem wd_X9_hasPlace : yX9_hasPlace.cls ≠ "java/lang/invoke/MethodHandle" ∧ yX9_hasPlace.cls ≠ "java/lang/invoke/VarHandle" ∧ (parseMethodDescriptor yX9_hasPlace.desc).map (fun d => d.parameters.length) = some 2 := ⟨pn_KindGrids_Store.1, pn_KindGrids_Store.2, pd_14⟩
theorem wi_X9_hasPlace : Cond.instanceMethod yX9_hasPlace ∈ lw_ok := (lw_okof 475 qw_475 rfl)
theorem ws_X9_hasPlace : Cond.selects yX9_hasPlace.cls yX9_hasPlace yX9_hasPlace ∈ lw_ok := (lw_okof 476 qw_476 rfl)
theorem kRX6_98 : dnLV RX6 98 2 7 yX9_hasPlace cX9_hasPlace 3 (some .boolean) := ⟨(lw_okof 677 qw_677 rfl), wi_X9_hasPlace, ws_X9_hasPlace, wn_KindGrids_Store, wc_X9_hasPlace, wd_X9_hasPlace, by decide, _, rfl, rfl⟩
theorem wc_X9_freshRow : Cond.code yX9_freshRow cX9_freshRow 4 (some (.object "KindGrids$Row")) ∈ lw_ok := (lw_okof 481 qw_481 rfl)
theorem wd_X9_freshRow : yX9_freshRow.cls ≠ "java/lang/invoke/MethodHandle" ∧ yX9_freshRow.cls ≠ "java/lang/invoke/VarHandle" ∧ (parseMethodDescriptor yX9_freshRow.desc).map (fun d => d.parameters.length) = some 2 := ⟨pn_KindGrids_Store.1, pn_KindGrids_Store.2, pd_20⟩
theorem wi_X9_freshRow : Cond.instanceMethod yX9_freshRow ∈ lw_ok := (lw_okof 479 qw_479 rfl)
theorem ws_X9_freshRow : Cond.selects yX9_freshRow.cls yX9_freshRow yX9_freshRow ∈ lw_ok := (lw_okof 480 qw_480 rfl)
theorem kRX6_101 : dnLV RX6 101 2 7 yX9_freshRow cX9_freshRow 4 (some (.object "KindGrids$Row")) := ⟨(lw_okof 678 qw_678 rfl), wi_X9_freshRow, ws_X9_freshRow, wn_KindGrids_Store, wc_X9_freshRow, wd_X9_freshRow, by decide, _, rfl, rfl⟩
theorem wc_X6_append : Cond.code yX6_append cX6_append 6 none ∈ lw_ok := (lw_okof 681 qw_681 rfl)
theorem pd_34 : (parseMethodDescriptor "(LKindGrids$Row;ILKindGrids$Row;II)V").map (fun d => d.parameters.length) = some 5 := by decide +kernel
theorem wd_X6_append : yX6_append.cls ≠ "java/lang/invoke/MethodHandle" ∧ yX6_append.cls ≠ "java/lang/invoke/VarHandle" ∧ (parseMethodDescriptor yX6_append.desc).map (fun d => d.parameters.length) = some 5 := ⟨pn_KindGrids_Rows.1, pn_KindGrids_Rows.2, pd_34⟩
theorem wt_X6_append : Cond.static yX6_append ∈ lw_ok := (lw_okof 680 qw_680 rfl)
theorem kRX6_104 : dnLS RX6 104 5 yX6_append cX6_append 6 none := ⟨(lw_okof 679 qw_679 rfl), wt_X6_append, wn_KindGrids_Rows, wc_X6_append, wd_X6_append⟩
theorem wc_X9_place : Cond.code yX9_place cX9_place 4 none ∈ lw_ok := (lw_okof 500 qw_500 rfl)
theorem pd_35 : (parseMethodDescriptor "(IILKindGrids$Row;)V").map (fun d => d.parameters.length) = some 3 := by decide +kernel
theorem wd_X9_place : yX9_place.cls ≠ "java/lang/invoke/MethodHandle" ∧ yX9_place.cls ≠ "java/lang/invoke/VarHandle" ∧ (parseMethodDescriptor yX9_place.desc).map (fun d => d.parameters.length) = some 3 := ⟨pn_KindGrids_Store.1, pn_KindGrids_Store.2, pd_35⟩
theorem wi_X9_place : Cond.instanceMethod yX9_place ∈ lw_ok := (lw_okof 498 qw_498 rfl)
theorem ws_X9_place : Cond.selects yX9_place.cls yX9_place yX9_place ∈ lw_ok := (lw_okof 499 qw_499 rfl)
theorem kRX6_108 : dnLV RX6 108 3 7 yX9_place cX9_place 4 none := ⟨(lw_okof 682 qw_682 rfl), wi_X9_place, ws_X9_place, wn_KindGrids_Store, wc_X9_place, wd_X9_place, by decide, _, rfl, rfl⟩
theorem kRX6_112 : dnLSN RX6 RX12 112 1 yX12_isKind cX12_isKind 1 (some .boolean) := ⟨(lw_nestof 691 qw_691 rfl), wt_X12_isKind, wn_KindGrids, wc_X12_isKind, wd_X12_isKind⟩
theorem kRX6_118 : dnLSN RX6 RX12 118 1 yX12_leastKind cX12_leastKind 2 (some .int) := ⟨(lw_nestof 708 qw_708 rfl), wt_X12_leastKind, wn_KindGrids, wc_X12_leastKind, wd_X12_leastKind⟩
theorem wc_X5_copyFrom : Cond.code yX5_copyFrom cX5_copyFrom 2 none ∈ lw_ok := (lw_okof 722 qw_722 rfl)
theorem pd_36 : (parseMethodDescriptor "(LKindGrids$Row;)V").map (fun d => d.parameters.length) = some 1 := by decide +kernel
theorem wd_X5_copyFrom : yX5_copyFrom.cls ≠ "java/lang/invoke/MethodHandle" ∧ yX5_copyFrom.cls ≠ "java/lang/invoke/VarHandle" ∧ (parseMethodDescriptor yX5_copyFrom.desc).map (fun d => d.parameters.length) = some 1 := ⟨pn_KindGrids_Row.1, pn_KindGrids_Row.2, pd_36⟩
theorem wi_X5_copyFrom : Cond.instanceMethod yX5_copyFrom ∈ lw_ok := (lw_okof 720 qw_720 rfl)
theorem ws_X5_copyFrom : Cond.selects yX5_copyFrom.cls yX5_copyFrom yX5_copyFrom ∈ lw_ok := (lw_okof 721 qw_721 rfl)
theorem kRX6_122 : dnLV RX6 122 1 4 yX5_copyFrom cX5_copyFrom 2 none := ⟨(lw_okof 719 qw_719 rfl), wi_X5_copyFrom, ws_X5_copyFrom, wn_KindGrids_Row, wc_X5_copyFrom, wd_X5_copyFrom, by decide, _, rfl, rfl⟩
theorem wc_J9_floorMod_7cf53 : Cond.code yJ9_floorMod_7cf53 cJ9_floorMod_7cf53 3 (some .int) ∈ lw_ok := (lw_okof 736 qw_736 rfl)
theorem wd_J9_floorMod_7cf53 : yJ9_floorMod_7cf53.cls ≠ "java/lang/invoke/MethodHandle" ∧ yJ9_floorMod_7cf53.cls ≠ "java/lang/invoke/VarHandle" ∧ (parseMethodDescriptor yJ9_floorMod_7cf53.desc).map (fun d => d.parameters.length) = some 2 := ⟨pn_java_lang_Math.1, pn_java_lang_Math.2, pd_3⟩
theorem wt_J9_floorMod_7cf53 : Cond.static yJ9_floorMod_7cf53 ∈ lw_ok := (lw_okof 735 qw_735 rfl)
theorem kRX6_126 : dnLS RX6 126 2 yJ9_floorMod_7cf53 cJ9_floorMod_7cf53 3 (some .int) := ⟨(lw_okof 734 qw_734 rfl), wt_J9_floorMod_7cf53, wn_java_lang_Math, wc_J9_floorMod_7cf53, wd_J9_floorMod_7cf53⟩
theorem wc_X6_insert : Cond.code yX6_insert cX6_insert 4 none ∈ lw_ok := (lw_okof 748 qw_748 rfl)
theorem pd_37 : (parseMethodDescriptor "(LKindGrids$Row;I)V").map (fun d => d.parameters.length) = some 2 := by decide +kernel
theorem wd_X6_insert : yX6_insert.cls ≠ "java/lang/invoke/MethodHandle" ∧ yX6_insert.cls ≠ "java/lang/invoke/VarHandle" ∧ (parseMethodDescriptor yX6_insert.desc).map (fun d => d.parameters.length) = some 2 := ⟨pn_KindGrids_Rows.1, pn_KindGrids_Rows.2, pd_37⟩
theorem wi_X6_insert : Cond.instanceMethod yX6_insert ∈ lw_ok := (lw_okof 746 qw_746 rfl)
theorem ws_X6_insert : Cond.selects yX6_insert.cls yX6_insert yX6_insert ∈ lw_ok := (lw_okof 747 qw_747 rfl)
theorem kRX6_131 : dnLV RX6 131 2 5 yX6_insert cX6_insert 4 none := ⟨(lw_okof 745 qw_745 rfl), wi_X6_insert, ws_X6_insert, wn_KindGrids_Rows, wc_X6_insert, wd_X6_insert, by decide, _, rfl, rfl⟩
theorem wc_X5_exceeds : Cond.code yX5_exceeds cX5_exceeds 4 (some .boolean) ∈ lw_ok := (lw_okof 752 qw_752 rfl)
theorem wd_X5_exceeds : yX5_exceeds.cls ≠ "java/lang/invoke/MethodHandle" ∧ yX5_exceeds.cls ≠ "java/lang/invoke/VarHandle" ∧ (parseMethodDescriptor yX5_exceeds.desc).map (fun d => d.parameters.length) = some 3 := ⟨pn_KindGrids_Row.1, pn_KindGrids_Row.2, pd_25⟩
theorem wi_X5_exceeds : Cond.instanceMethod yX5_exceeds ∈ lw_ok := (lw_okof 750 qw_750 rfl)
theorem ws_X5_exceeds : Cond.selects yX5_exceeds.cls yX5_exceeds yX5_exceeds ∈ lw_ok := (lw_okof 751 qw_751 rfl)
theorem kRX6_135 : dnLV RX6 135 3 4 yX5_exceeds cX5_exceeds 4 (some .boolean) := ⟨(lw_okof 749 qw_749 rfl), wi_X5_exceeds, ws_X5_exceeds, wn_KindGrids_Row, wc_X5_exceeds, wd_X5_exceeds, by decide, _, rfl, rfl⟩
theorem kRX6_142 : dnLV RX6 142 1 4 yX5_floatAt cX5_floatAt 2 (some .float) := ⟨(lw_okof 761 qw_761 rfl), wi_X5_floatAt, ws_X5_floatAt, wn_KindGrids_Row, wc_X5_floatAt, wd_X5_floatAt, by decide, _, rfl, rfl⟩
theorem kRX6_150 : dnLSN RX6 RX12 150 2 yX12_narrowed cX12_narrowed 3 (some .long) := ⟨(lw_nestof 762 qw_762 rfl), wt_X12_narrowed, wn_KindGrids, wc_X12_narrowed, wd_X12_narrowed⟩
theorem wc_X5_cellsReadAs : Cond.code yX5_cellsReadAs cX5_cellsReadAs 2 (some .boolean) ∈ lw_ok := (lw_okof 774 qw_774 rfl)
theorem wd_X5_cellsReadAs : yX5_cellsReadAs.cls ≠ "java/lang/invoke/MethodHandle" ∧ yX5_cellsReadAs.cls ≠ "java/lang/invoke/VarHandle" ∧ (parseMethodDescriptor yX5_cellsReadAs.desc).map (fun d => d.parameters.length) = some 1 := ⟨pn_KindGrids_Row.1, pn_KindGrids_Row.2, pd_13⟩
theorem wi_X5_cellsReadAs : Cond.instanceMethod yX5_cellsReadAs ∈ lw_ok := (lw_okof 772 qw_772 rfl)
theorem ws_X5_cellsReadAs : Cond.selects yX5_cellsReadAs.cls yX5_cellsReadAs yX5_cellsReadAs ∈ lw_ok := (lw_okof 773 qw_773 rfl)
theorem kRX6_154 : dnLV RX6 154 1 4 yX5_cellsReadAs cX5_cellsReadAs 2 (some .boolean) := ⟨(lw_okof 771 qw_771 rfl), wi_X5_cellsReadAs, ws_X5_cellsReadAs, wn_KindGrids_Row, wc_X5_cellsReadAs, wd_X5_cellsReadAs, by decide, _, rfl, rfl⟩
theorem kRX7_3 : Cond.methodLink RX7 3 Lib.objectInit ∈ lw_ok := (lw_okof 297 qw_297 rfl)
theorem kRX7_29 : dnLV RX7 29 1 7 yX9_gridFault cX9_gridFault 2 (some .int) := ⟨(lw_okof 924 qw_924 rfl), wi_X9_gridFault, ws_X9_gridFault, wn_KindGrids_Store, wc_X9_gridFault, wd_X9_gridFault, by decide, _, rfl, rfl⟩
theorem wc_X9_firstUnreadable : Cond.code yX9_firstUnreadable cX9_firstUnreadable 5 (some .int) ∈ lw_ok := (lw_okof 854 qw_854 rfl)
theorem wd_X9_firstUnreadable : yX9_firstUnreadable.cls ≠ "java/lang/invoke/MethodHandle" ∧ yX9_firstUnreadable.cls ≠ "java/lang/invoke/VarHandle" ∧ (parseMethodDescriptor yX9_firstUnreadable.desc).map (fun d => d.parameters.length) = some 2 := ⟨pn_KindGrids_Store.1, pn_KindGrids_Store.2, pd_3⟩
theorem wi_X9_firstUnreadable : Cond.instanceMethod yX9_firstUnreadable ∈ lw_ok := (lw_okof 852 qw_852 rfl)
theorem ws_X9_firstUnreadable : Cond.selects yX9_firstUnreadable.cls yX9_firstUnreadable yX9_firstUnreadable ∈ lw_ok := (lw_okof 853 qw_853 rfl)
theorem kRX7_35 : dnLV RX7 35 2 7 yX9_firstUnreadable cX9_firstUnreadable 5 (some .int) := ⟨(lw_okof 925 qw_925 rfl), wi_X9_firstUnreadable, ws_X9_firstUnreadable, wn_KindGrids_Store, wc_X9_firstUnreadable, wd_X9_firstUnreadable, by decide, _, rfl, rfl⟩
theorem wc_X7_hasEmptyRow : Cond.code yX7_hasEmptyRow cX7_hasEmptyRow 4 (some .boolean) ∈ lw_ok := (lw_okof 929 qw_929 rfl)
theorem wd_X7_hasEmptyRow : yX7_hasEmptyRow.cls ≠ "java/lang/invoke/MethodHandle" ∧ yX7_hasEmptyRow.cls ≠ "java/lang/invoke/VarHandle" ∧ (parseMethodDescriptor yX7_hasEmptyRow.desc).map (fun d => d.parameters.length) = some 1 := ⟨pn_KindGrids_Searches.1, pn_KindGrids_Searches.2, pd_13⟩
theorem wi_X7_hasEmptyRow : Cond.instanceMethod yX7_hasEmptyRow ∈ lw_ok := (lw_okof 927 qw_927 rfl)
theorem ws_X7_hasEmptyRow : Cond.selects yX7_hasEmptyRow.cls yX7_hasEmptyRow yX7_hasEmptyRow ∈ lw_ok := (lw_okof 928 qw_928 rfl)
theorem kRX7_39 : dnLV RX7 39 1 6 yX7_hasEmptyRow cX7_hasEmptyRow 4 (some .boolean) := ⟨(lw_okof 926 qw_926 rfl), wi_X7_hasEmptyRow, ws_X7_hasEmptyRow, wn_KindGrids_Searches, wc_X7_hasEmptyRow, wd_X7_hasEmptyRow, by decide, _, rfl, rfl⟩
theorem kRX7_47 : dnLV RX7 47 2 7 yX9_rowAt cX9_rowAt 4 (some (.object "KindGrids$Row")) := ⟨(lw_okof 930 qw_930 rfl), wi_X9_rowAt, ws_X9_rowAt, wn_KindGrids_Store, wc_X9_rowAt, wd_X9_rowAt, by decide, _, rfl, rfl⟩
theorem wc_X7_extendPaths : Cond.code yX7_extendPaths cX7_extendPaths 7 none ∈ lw_ok := (lw_okof 934 qw_934 rfl)
theorem pd_38 : (parseMethodDescriptor "(LKindGrids$Row;ZI)V").map (fun d => d.parameters.length) = some 3 := by decide +kernel
theorem wd_X7_extendPaths : yX7_extendPaths.cls ≠ "java/lang/invoke/MethodHandle" ∧ yX7_extendPaths.cls ≠ "java/lang/invoke/VarHandle" ∧ (parseMethodDescriptor yX7_extendPaths.desc).map (fun d => d.parameters.length) = some 3 := ⟨pn_KindGrids_Searches.1, pn_KindGrids_Searches.2, pd_38⟩
theorem wi_X7_extendPaths : Cond.instanceMethod yX7_extendPaths ∈ lw_ok := (lw_okof 932 qw_932 rfl)
theorem ws_X7_extendPaths : Cond.selects yX7_extendPaths.cls yX7_extendPaths yX7_extendPaths ∈ lw_ok := (lw_okof 933 qw_933 rfl)
theorem kRX7_51 : dnLV RX7 51 3 6 yX7_extendPaths cX7_extendPaths 7 none := ⟨(lw_okof 931 qw_931 rfl), wi_X7_extendPaths, ws_X7_extendPaths, wn_KindGrids_Searches, wc_X7_extendPaths, wd_X7_extendPaths, by decide, _, rfl, rfl⟩
theorem wc_X7_reportTrail : Cond.code yX7_reportTrail cX7_reportTrail 3 none ∈ lw_ok := (lw_okof 946 qw_946 rfl)
theorem wd_X7_reportTrail : yX7_reportTrail.cls ≠ "java/lang/invoke/MethodHandle" ∧ yX7_reportTrail.cls ≠ "java/lang/invoke/VarHandle" ∧ (parseMethodDescriptor yX7_reportTrail.desc).map (fun d => d.parameters.length) = some 1 := ⟨pn_KindGrids_Searches.1, pn_KindGrids_Searches.2, pd_19⟩
theorem wi_X7_reportTrail : Cond.instanceMethod yX7_reportTrail ∈ lw_ok := (lw_okof 944 qw_944 rfl)
theorem ws_X7_reportTrail : Cond.selects yX7_reportTrail.cls yX7_reportTrail yX7_reportTrail ∈ lw_ok := (lw_okof 945 qw_945 rfl)
theorem kRX7_61 : dnLV RX7 61 1 6 yX7_reportTrail cX7_reportTrail 3 none := ⟨(lw_okof 943 qw_943 rfl), wi_X7_reportTrail, ws_X7_reportTrail, wn_KindGrids_Searches, wc_X7_reportTrail, wd_X7_reportTrail, by decide, _, rfl, rfl⟩
theorem kRX7_65 : Cond.methodLink RX7 65 arraycopyName ∈ lw_ok := (lw_okof 935 qw_935 rfl)
theorem wc_X7_bestNear : Cond.code yX7_bestNear cX7_bestNear 6 (some .long) ∈ lw_ok := (lw_okof 939 qw_939 rfl)
theorem pd_39 : (parseMethodDescriptor "(II)J").map (fun d => d.parameters.length) = some 2 := by decide +kernel
theorem wd_X7_bestNear : yX7_bestNear.cls ≠ "java/lang/invoke/MethodHandle" ∧ yX7_bestNear.cls ≠ "java/lang/invoke/VarHandle" ∧ (parseMethodDescriptor yX7_bestNear.desc).map (fun d => d.parameters.length) = some 2 := ⟨pn_KindGrids_Searches.1, pn_KindGrids_Searches.2, pd_39⟩
theorem wi_X7_bestNear : Cond.instanceMethod yX7_bestNear ∈ lw_ok := (lw_okof 937 qw_937 rfl)
theorem ws_X7_bestNear : Cond.selects yX7_bestNear.cls yX7_bestNear yX7_bestNear ∈ lw_ok := (lw_okof 938 qw_938 rfl)
theorem kRX7_71 : dnLV RX7 71 2 6 yX7_bestNear cX7_bestNear 6 (some .long) := ⟨(lw_okof 936 qw_936 rfl), wi_X7_bestNear, ws_X7_bestNear, wn_KindGrids_Searches, wc_X7_bestNear, wd_X7_bestNear, by decide, _, rfl, rfl⟩
theorem kRX7_75 : Cond.constantLong RX7 75 (-1152921504606846976 : Int64) ∈ lw_ok := (lw_okof 940 qw_940 rfl)
theorem kRX7_80 : dnLS RX7 80 2 yJ9_max_7cf53 cJ9_max_7cf53 2 (some .int) := ⟨(lw_okof 941 qw_941 rfl), wt_J9_max_7cf53, wn_java_lang_Math, wc_J9_max_7cf53, wd_J9_max_7cf53⟩
theorem wc_J9_max_f86c9 : Cond.code yJ9_max_f86c9 cJ9_max_f86c9 4 (some .long) ∈ lw_ok := (lw_okof 903 qw_903 rfl)
theorem pd_40 : (parseMethodDescriptor "(JJ)J").map (fun d => d.parameters.length) = some 2 := by decide +kernel
theorem wd_J9_max_f86c9 : yJ9_max_f86c9.cls ≠ "java/lang/invoke/MethodHandle" ∧ yJ9_max_f86c9.cls ≠ "java/lang/invoke/VarHandle" ∧ (parseMethodDescriptor yJ9_max_f86c9.desc).map (fun d => d.parameters.length) = some 2 := ⟨pn_java_lang_Math.1, pn_java_lang_Math.2, pd_40⟩
theorem wt_J9_max_f86c9 : Cond.static yJ9_max_f86c9 ∈ lw_ok := (lw_okof 902 qw_902 rfl)
theorem kRX7_85 : dnLS RX7 85 2 yJ9_max_f86c9 cJ9_max_f86c9 4 (some .long) := ⟨(lw_okof 942 qw_942 rfl), wt_J9_max_f86c9, wn_java_lang_Math, wc_J9_max_f86c9, wd_J9_max_f86c9⟩
theorem wc_X7_tryBlocks : Cond.code yX7_tryBlocks cX7_tryBlocks 10 none ∈ lw_ok := (lw_okof 1007 qw_1007 rfl)
theorem wd_X7_tryBlocks : yX7_tryBlocks.cls ≠ "java/lang/invoke/MethodHandle" ∧ yX7_tryBlocks.cls ≠ "java/lang/invoke/VarHandle" ∧ (parseMethodDescriptor yX7_tryBlocks.desc).map (fun d => d.parameters.length) = some 3 := ⟨pn_KindGrids_Searches.1, pn_KindGrids_Searches.2, pd_22⟩
theorem wi_X7_tryBlocks : Cond.instanceMethod yX7_tryBlocks ∈ lw_ok := (lw_okof 1005 qw_1005 rfl)
theorem ws_X7_tryBlocks : Cond.selects yX7_tryBlocks.cls yX7_tryBlocks yX7_tryBlocks ∈ lw_ok := (lw_okof 1006 qw_1006 rfl)
theorem kRX7_100 : dnLV RX7 100 3 6 yX7_tryBlocks cX7_tryBlocks 10 none := ⟨(lw_okof 1004 qw_1004 rfl), wi_X7_tryBlocks, ws_X7_tryBlocks, wn_KindGrids_Searches, wc_X7_tryBlocks, wd_X7_tryBlocks, by decide, _, rfl, rfl⟩
theorem kRX7_107 : dnLS RX7 107 2 yJ7_fill_d0a16 cJ7_fill_d0a16 5 none := ⟨(lw_okof 1008 qw_1008 rfl), wt_J7_fill_d0a16, wn_java_util_Arrays, wc_J7_fill_d0a16, wd_J7_fill_d0a16⟩
theorem kRX7_116 : dnLSN RX7 RX12 116 2 yX12_readsAs cX12_readsAs 2 (some .boolean) := ⟨(lw_nestof 1009 qw_1009 rfl), wt_X12_readsAs, wn_KindGrids, wc_X12_readsAs, wd_X12_readsAs⟩
theorem kRX7_120 : dnLS RX7 120 2 yJ9_min_7cf53 cJ9_min_7cf53 2 (some .int) := ⟨(lw_okof 1010 qw_1010 rfl), wt_J9_min_7cf53, wn_java_lang_Math, wc_J9_min_7cf53, wd_J9_min_7cf53⟩
theorem kRX7_123 : Cond.constant RX7 123 (1000000 : Int32) ∈ lw_ok := (lw_okof 1011 qw_1011 rfl)
theorem kRX7_124 : dnLSN RX7 RX12 124 1 yX12_isGrid cX12_isGrid 1 (some .boolean) := ⟨(lw_nestof 1020 qw_1020 rfl), wt_X12_isGrid, wn_KindGrids, wc_X12_isGrid, wd_X12_isGrid⟩
theorem wc_X7_occursAt : Cond.code yX7_occursAt cX7_occursAt 7 (some .boolean) ∈ lw_ok := (lw_okof 1024 qw_1024 rfl)
theorem pd_41 : (parseMethodDescriptor "(IIII)Z").map (fun d => d.parameters.length) = some 4 := by decide +kernel
theorem wd_X7_occursAt : yX7_occursAt.cls ≠ "java/lang/invoke/MethodHandle" ∧ yX7_occursAt.cls ≠ "java/lang/invoke/VarHandle" ∧ (parseMethodDescriptor yX7_occursAt.desc).map (fun d => d.parameters.length) = some 4 := ⟨pn_KindGrids_Searches.1, pn_KindGrids_Searches.2, pd_41⟩
theorem wi_X7_occursAt : Cond.instanceMethod yX7_occursAt ∈ lw_ok := (lw_okof 1022 qw_1022 rfl)
theorem ws_X7_occursAt : Cond.selects yX7_occursAt.cls yX7_occursAt yX7_occursAt ∈ lw_ok := (lw_okof 1023 qw_1023 rfl)
theorem kRX7_127 : dnLV RX7 127 4 6 yX7_occursAt cX7_occursAt 7 (some .boolean) := ⟨(lw_okof 1021 qw_1021 rfl), wi_X7_occursAt, ws_X7_occursAt, wn_KindGrids_Searches, wc_X7_occursAt, wd_X7_occursAt, by decide, _, rfl, rfl⟩
theorem wc_X7_rowOccurs : Cond.code yX7_rowOccurs cX7_rowOccurs 4 (some .boolean) ∈ lw_ok := (lw_okof 1027 qw_1027 rfl)
theorem pd_42 : (parseMethodDescriptor "(LKindGrids$Row;LKindGrids$Row;I)Z").map (fun d => d.parameters.length) = some 3 := by decide +kernel
theorem wd_X7_rowOccurs : yX7_rowOccurs.cls ≠ "java/lang/invoke/MethodHandle" ∧ yX7_rowOccurs.cls ≠ "java/lang/invoke/VarHandle" ∧ (parseMethodDescriptor yX7_rowOccurs.desc).map (fun d => d.parameters.length) = some 3 := ⟨pn_KindGrids_Searches.1, pn_KindGrids_Searches.2, pd_42⟩
theorem wt_X7_rowOccurs : Cond.static yX7_rowOccurs ∈ lw_ok := (lw_okof 1026 qw_1026 rfl)
theorem kRX7_131 : dnLS RX7 131 3 yX7_rowOccurs cX7_rowOccurs 4 (some .boolean) := ⟨(lw_okof 1025 qw_1025 rfl), wt_X7_rowOccurs, wn_KindGrids_Searches, wc_X7_rowOccurs, wd_X7_rowOccurs⟩
theorem kRX7_135 : dnLV RX7 135 1 4 yX5_hasCell cX5_hasCell 2 (some .boolean) := ⟨(lw_okof 1028 qw_1028 rfl), wi_X5_hasCell, ws_X5_hasCell, wn_KindGrids_Row, wc_X5_hasCell, wd_X5_hasCell, by decide, _, rfl, rfl⟩
theorem kRX7_141 : dnLV RX7 141 3 4 yX5_matches cX5_matches 6 (some .boolean) := ⟨(lw_okof 1029 qw_1029 rfl), wi_X5_matches, ws_X5_matches, wn_KindGrids_Row, wc_X5_matches, wd_X5_matches, by decide, _, rfl, rfl⟩
theorem kRX9_3 : Cond.methodLink RX9 3 Lib.objectInit ∈ lw_ok := (lw_okof 138 qw_138 rfl)
theorem kRX9_18 : Cond.classLink RX9 18 RX5 ∈ lw_ok := (lw_okof 139 qw_139 rfl)
theorem kRX9_24 : dnLS RX9 24 2 yJ7_fill_53178 cJ7_fill_53178 4 none := ⟨(lw_okof 141 qw_141 rfl), wt_J7_fill_53178, wn_java_util_Arrays, wc_J7_fill_53178, wd_J7_fill_53178⟩
theorem kRX9_30 : dnLI RX9 30 1 yX5_init cX5_init 2 := ⟨(lw_okof 145 qw_145 rfl), wi_X5_init, wn_KindGrids_Row, wc_X5_init, rfl, wd_X5_init⟩
theorem kRX9_33 : Cond.methodLink RX9 33 arraycopyName ∈ lw_ok := (lw_okof 1136 qw_1136 rfl)
theorem kRX9_39 : dnLV RX9 39 1 4 yX5_copyFrom cX5_copyFrom 2 none := ⟨(lw_okof 1137 qw_1137 rfl), wi_X5_copyFrom, ws_X5_copyFrom, wn_KindGrids_Row, wc_X5_copyFrom, wd_X5_copyFrom, by decide, _, rfl, rfl⟩
theorem kRX9_43 : dnLV RX9 43 2 7 yX9_hasPlace cX9_hasPlace 3 (some .boolean) := ⟨(lw_okof 474 qw_474 rfl), wi_X9_hasPlace, ws_X9_hasPlace, wn_KindGrids_Store, wc_X9_hasPlace, wd_X9_hasPlace, by decide, _, rfl, rfl⟩
theorem kRX9_47 : dnLSN RX9 RX12 47 1 yX12_isGrid cX12_isGrid 1 (some .boolean) := ⟨(lw_nestof 432 qw_432 rfl), wt_X12_isGrid, wn_KindGrids, wc_X12_isGrid, wd_X12_isGrid⟩
theorem kRX9_51 : dnLV RX9 51 1 7 yX9_gridFault cX9_gridFault 2 (some .int) := ⟨(lw_okof 455 qw_455 rfl), wi_X9_gridFault, ws_X9_gridFault, wn_KindGrids_Store, wc_X9_gridFault, wd_X9_gridFault, by decide, _, rfl, rfl⟩
theorem wc_X9_placeFault : Cond.code yX9_placeFault cX9_placeFault 4 (some .int) ∈ lw_ok := (lw_okof 473 qw_473 rfl)
theorem wd_X9_placeFault : yX9_placeFault.cls ≠ "java/lang/invoke/MethodHandle" ∧ yX9_placeFault.cls ≠ "java/lang/invoke/VarHandle" ∧ (parseMethodDescriptor yX9_placeFault.desc).map (fun d => d.parameters.length) = some 2 := ⟨pn_KindGrids_Store.1, pn_KindGrids_Store.2, pd_3⟩
theorem wi_X9_placeFault : Cond.instanceMethod yX9_placeFault ∈ lw_ok := (lw_okof 471 qw_471 rfl)
theorem ws_X9_placeFault : Cond.selects yX9_placeFault.cls yX9_placeFault yX9_placeFault ∈ lw_ok := (lw_okof 472 qw_472 rfl)
theorem kRX9_55 : dnLV RX9 55 2 7 yX9_placeFault cX9_placeFault 4 (some .int) := ⟨(lw_okof 470 qw_470 rfl), wi_X9_placeFault, ws_X9_placeFault, wn_KindGrids_Store, wc_X9_placeFault, wd_X9_placeFault, by decide, _, rfl, rfl⟩
theorem wc_X9_firstHolder : Cond.code yX9_firstHolder cX9_firstHolder 3 (some .int) ∈ lw_ok := (lw_okof 485 qw_485 rfl)
theorem wd_X9_firstHolder : yX9_firstHolder.cls ≠ "java/lang/invoke/MethodHandle" ∧ yX9_firstHolder.cls ≠ "java/lang/invoke/VarHandle" ∧ (parseMethodDescriptor yX9_firstHolder.desc).map (fun d => d.parameters.length) = some 1 := ⟨pn_KindGrids_Store.1, pn_KindGrids_Store.2, pd_4⟩
theorem wi_X9_firstHolder : Cond.instanceMethod yX9_firstHolder ∈ lw_ok := (lw_okof 483 qw_483 rfl)
theorem ws_X9_firstHolder : Cond.selects yX9_firstHolder.cls yX9_firstHolder yX9_firstHolder ∈ lw_ok := (lw_okof 484 qw_484 rfl)
theorem kRX9_59 : dnLV RX9 59 1 7 yX9_firstHolder cX9_firstHolder 3 (some .int) := ⟨(lw_okof 482 qw_482 rfl), wi_X9_firstHolder, ws_X9_firstHolder, wn_KindGrids_Store, wc_X9_firstHolder, wd_X9_firstHolder, by decide, _, rfl, rfl⟩
theorem kRX9_62 : dnLV RX9 62 2 4 yX5_begin cX5_begin 3 none := ⟨(lw_okof 486 qw_486 rfl), wi_X5_begin, ws_X5_begin, wn_KindGrids_Row, wc_X5_begin, wd_X5_begin, by decide, _, rfl, rfl⟩
theorem kRX9_70 : dnLV RX9 70 2 7 yX9_freshRow cX9_freshRow 4 (some (.object "KindGrids$Row")) := ⟨(lw_okof 478 qw_478 rfl), wi_X9_freshRow, ws_X9_freshRow, wn_KindGrids_Store, wc_X9_freshRow, wd_X9_freshRow, by decide, _, rfl, rfl⟩
theorem kRX9_74 : dnLV RX9 74 3 7 yX9_place cX9_place 4 none := ⟨(lw_okof 497 qw_497 rfl), wi_X9_place, ws_X9_place, wn_KindGrids_Store, wc_X9_place, wd_X9_place, by decide, _, rfl, rfl⟩
theorem wc_X9_startGrid : Cond.code yX9_startGrid cX9_startGrid 2 none ∈ lw_ok := (lw_okof 438 qw_438 rfl)
theorem wd_X9_startGrid : yX9_startGrid.cls ≠ "java/lang/invoke/MethodHandle" ∧ yX9_startGrid.cls ≠ "java/lang/invoke/VarHandle" ∧ (parseMethodDescriptor yX9_startGrid.desc).map (fun d => d.parameters.length) = some 1 := ⟨pn_KindGrids_Store.1, pn_KindGrids_Store.2, pd_19⟩
theorem wi_X9_startGrid : Cond.instanceMethod yX9_startGrid ∈ lw_ok := (lw_okof 436 qw_436 rfl)
theorem ws_X9_startGrid : Cond.selects yX9_startGrid.cls yX9_startGrid yX9_startGrid ∈ lw_ok := (lw_okof 437 qw_437 rfl)
theorem kRX9_78 : dnLV RX9 78 1 7 yX9_startGrid cX9_startGrid 2 none := ⟨(lw_okof 435 qw_435 rfl), wi_X9_startGrid, ws_X9_startGrid, wn_KindGrids_Store, wc_X9_startGrid, wd_X9_startGrid, by decide, _, rfl, rfl⟩
theorem wc_X9_finishGrid : Cond.code yX9_finishGrid cX9_finishGrid 3 (some .int) ∈ lw_ok := (lw_okof 442 qw_442 rfl)
theorem wd_X9_finishGrid : yX9_finishGrid.cls ≠ "java/lang/invoke/MethodHandle" ∧ yX9_finishGrid.cls ≠ "java/lang/invoke/VarHandle" ∧ (parseMethodDescriptor yX9_finishGrid.desc).map (fun d => d.parameters.length) = some 1 := ⟨pn_KindGrids_Store.1, pn_KindGrids_Store.2, pd_4⟩
theorem wi_X9_finishGrid : Cond.instanceMethod yX9_finishGrid ∈ lw_ok := (lw_okof 440 qw_440 rfl)
theorem ws_X9_finishGrid : Cond.selects yX9_finishGrid.cls yX9_finishGrid yX9_finishGrid ∈ lw_ok := (lw_okof 441 qw_441 rfl)
theorem kRX9_81 : dnLV RX9 81 1 7 yX9_finishGrid cX9_finishGrid 3 (some .int) := ⟨(lw_okof 439 qw_439 rfl), wi_X9_finishGrid, ws_X9_finishGrid, wn_KindGrids_Store, wc_X9_finishGrid, wd_X9_finishGrid, by decide, _, rfl, rfl⟩
theorem kRX9_84 : dnLSN RX9 RX12 84 1 yX12_isKind cX12_isKind 1 (some .boolean) := ⟨(lw_nestof 467 qw_467 rfl), wt_X12_isKind, wn_KindGrids, wc_X12_isKind, wd_X12_isKind⟩
theorem wc_X9_pairFault : Cond.code yX9_pairFault cX9_pairFault 6 (some .int) ∈ lw_ok := (lw_okof 520 qw_520 rfl)
theorem wd_X9_pairFault : yX9_pairFault.cls ≠ "java/lang/invoke/MethodHandle" ∧ yX9_pairFault.cls ≠ "java/lang/invoke/VarHandle" ∧ (parseMethodDescriptor yX9_pairFault.desc).map (fun d => d.parameters.length) = some 4 := ⟨pn_KindGrids_Store.1, pn_KindGrids_Store.2, pd_5⟩
theorem wi_X9_pairFault : Cond.instanceMethod yX9_pairFault ∈ lw_ok := (lw_okof 518 qw_518 rfl)
theorem ws_X9_pairFault : Cond.selects yX9_pairFault.cls yX9_pairFault yX9_pairFault ∈ lw_ok := (lw_okof 519 qw_519 rfl)
theorem kRX9_87 : dnLV RX9 87 4 7 yX9_pairFault cX9_pairFault 6 (some .int) := ⟨(lw_okof 517 qw_517 rfl), wi_X9_pairFault, ws_X9_pairFault, wn_KindGrids_Store, wc_X9_pairFault, wd_X9_pairFault, by decide, _, rfl, rfl⟩
theorem kRX9_91 : dnLV RX9 91 2 7 yX9_contentOf cX9_contentOf 5 (some .int) := ⟨(lw_okof 521 qw_521 rfl), wi_X9_contentOf, ws_X9_contentOf, wn_KindGrids_Store, wc_X9_contentOf, wd_X9_contentOf, by decide, _, rfl, rfl⟩
theorem kRX9_94 : dnLV RX9 94 2 7 yX9_rowAt cX9_rowAt 4 (some (.object "KindGrids$Row")) := ⟨(lw_okof 525 qw_525 rfl), wi_X9_rowAt, ws_X9_rowAt, wn_KindGrids_Store, wc_X9_rowAt, wd_X9_rowAt, by decide, _, rfl, rfl⟩
theorem kRX9_100 : dnLV RX9 100 2 7 yX9_rowFault cX9_rowFault 4 (some .int) := ⟨(lw_okof 550 qw_550 rfl), wi_X9_rowFault, ws_X9_rowFault, wn_KindGrids_Store, wc_X9_rowFault, wd_X9_rowFault, by decide, _, rfl, rfl⟩
theorem kRX9_106 : dnLV RX9 106 2 7 yX9_cellsAt cX9_cellsAt 4 (some .int) := ⟨(lw_okof 830 qw_830 rfl), wi_X9_cellsAt, ws_X9_cellsAt, wn_KindGrids_Store, wc_X9_cellsAt, wd_X9_cellsAt, by decide, _, rfl, rfl⟩
theorem kRX9_109 : dnLS RX9 109 2 yJ9_max_7cf53 cJ9_max_7cf53 2 (some .int) := ⟨(lw_okof 834 qw_834 rfl), wt_J9_max_7cf53, wn_java_lang_Math, wc_J9_max_7cf53, wd_J9_max_7cf53⟩
theorem kRX9_114 : dnLV RX9 114 1 4 yX5_cellsReadAs cX5_cellsReadAs 2 (some .boolean) := ⟨(lw_okof 855 qw_855 rfl), wi_X5_cellsReadAs, ws_X5_cellsReadAs, wn_KindGrids_Row, wc_X5_cellsReadAs, wd_X5_cellsReadAs, by decide, _, rfl, rfl⟩
theorem kRX9_117 : dnLV RX9 117 0 7 yX9_presentGrids cX9_presentGrids 3 (some .int) := ⟨(lw_okof 1267 qw_1267 rfl), wi_X9_presentGrids, ws_X9_presentGrids, wn_KindGrids_Store, wc_X9_presentGrids, wd_X9_presentGrids, by decide, _, rfl, rfl⟩
theorem wc_X9_amountAt : Cond.code yX9_amountAt cX9_amountAt 6 (some .int) ∈ lw_ok := (lw_okof 1271 qw_1271 rfl)
theorem wd_X9_amountAt : yX9_amountAt.cls ≠ "java/lang/invoke/MethodHandle" ∧ yX9_amountAt.cls ≠ "java/lang/invoke/VarHandle" ∧ (parseMethodDescriptor yX9_amountAt.desc).map (fun d => d.parameters.length) = some 3 := ⟨pn_KindGrids_Store.1, pn_KindGrids_Store.2, pd_6⟩
theorem wi_X9_amountAt : Cond.instanceMethod yX9_amountAt ∈ lw_ok := (lw_okof 1269 qw_1269 rfl)
theorem ws_X9_amountAt : Cond.selects yX9_amountAt.cls yX9_amountAt yX9_amountAt ∈ lw_ok := (lw_okof 1270 qw_1270 rfl)
theorem kRX9_121 : dnLV RX9 121 3 7 yX9_amountAt cX9_amountAt 6 (some .int) := ⟨(lw_okof 1268 qw_1268 rfl), wi_X9_amountAt, ws_X9_amountAt, wn_KindGrids_Store, wc_X9_amountAt, wd_X9_amountAt, by decide, _, rfl, rfl⟩
theorem wc_X9_nullsOf : Cond.code yX9_nullsOf cX9_nullsOf 3 (some .int) ∈ lw_ok := (lw_okof 1274 qw_1274 rfl)
theorem pd_43 : (parseMethodDescriptor "(LKindGrids$Row;)I").map (fun d => d.parameters.length) = some 1 := by decide +kernel
theorem wd_X9_nullsOf : yX9_nullsOf.cls ≠ "java/lang/invoke/MethodHandle" ∧ yX9_nullsOf.cls ≠ "java/lang/invoke/VarHandle" ∧ (parseMethodDescriptor yX9_nullsOf.desc).map (fun d => d.parameters.length) = some 1 := ⟨pn_KindGrids_Store.1, pn_KindGrids_Store.2, pd_43⟩
theorem wt_X9_nullsOf : Cond.static yX9_nullsOf ∈ lw_ok := (lw_okof 1273 qw_1273 rfl)
theorem kRX9_125 : dnLS RX9 125 1 yX9_nullsOf cX9_nullsOf 3 (some .int) := ⟨(lw_okof 1272 qw_1272 rfl), wt_X9_nullsOf, wn_KindGrids_Store, wc_X9_nullsOf, wd_X9_nullsOf⟩
theorem kRX9_132 : Cond.constantLong RX9 132 (17 : Int64) ∈ lw_ok := (lw_okof 1291 qw_1291 rfl)
theorem kRX9_134 : Cond.constantLong RX9 134 (31 : Int64) ∈ lw_ok := (lw_okof 1292 qw_1292 rfl)
theorem wc_X9_checksumOfRow : Cond.code yX9_checksumOfRow cX9_checksumOfRow 8 (some .long) ∈ lw_ok := (lw_okof 1296 qw_1296 rfl)
theorem pd_44 : (parseMethodDescriptor "(JLKindGrids$Row;)J").map (fun d => d.parameters.length) = some 2 := by decide +kernel
theorem wd_X9_checksumOfRow : yX9_checksumOfRow.cls ≠ "java/lang/invoke/MethodHandle" ∧ yX9_checksumOfRow.cls ≠ "java/lang/invoke/VarHandle" ∧ (parseMethodDescriptor yX9_checksumOfRow.desc).map (fun d => d.parameters.length) = some 2 := ⟨pn_KindGrids_Store.1, pn_KindGrids_Store.2, pd_44⟩
theorem wi_X9_checksumOfRow : Cond.instanceMethod yX9_checksumOfRow ∈ lw_ok := (lw_okof 1294 qw_1294 rfl)
theorem ws_X9_checksumOfRow : Cond.selects yX9_checksumOfRow.cls yX9_checksumOfRow yX9_checksumOfRow ∈ lw_ok := (lw_okof 1295 qw_1295 rfl)
theorem kRX9_136 : dnLV RX9 136 2 7 yX9_checksumOfRow cX9_checksumOfRow 8 (some .long) := ⟨(lw_okof 1293 qw_1293 rfl), wi_X9_checksumOfRow, ws_X9_checksumOfRow, wn_KindGrids_Store, wc_X9_checksumOfRow, wd_X9_checksumOfRow, by decide, _, rfl, rfl⟩
theorem kRX9_140 : dnLV RX9 140 1 4 yX5_codeAt cX5_codeAt 2 (some .long) := ⟨(lw_okof 1297 qw_1297 rfl), wi_X5_codeAt, ws_X5_codeAt, wn_KindGrids_Row, wc_X5_codeAt, wd_X5_codeAt, by decide, _, rfl, rfl⟩
theorem kRX10_3 : Cond.methodLink RX10 3 Lib.objectInit ∈ lw_ok := (lw_okof 272 qw_272 rfl)
theorem wc_X10_isSummed : Cond.code yX10_isSummed cX10_isSummed 1 (some .boolean) ∈ lw_ok := (lw_okof 874 qw_874 rfl)
theorem wd_X10_isSummed : yX10_isSummed.cls ≠ "java/lang/invoke/MethodHandle" ∧ yX10_isSummed.cls ≠ "java/lang/invoke/VarHandle" ∧ (parseMethodDescriptor yX10_isSummed.desc).map (fun d => d.parameters.length) = some 1 := ⟨pn_KindGrids_Sums.1, pn_KindGrids_Sums.2, pd_13⟩
theorem wt_X10_isSummed : Cond.static yX10_isSummed ∈ lw_ok := (lw_okof 873 qw_873 rfl)
theorem kRX10_19 : dnLS RX10 19 1 yX10_isSummed cX10_isSummed 1 (some .boolean) := ⟨(lw_okof 872 qw_872 rfl), wt_X10_isSummed, wn_KindGrids_Sums, wc_X10_isSummed, wd_X10_isSummed⟩
theorem kRX10_38 : dnLSN RX10 RX12 38 1 yX12_isGrid cX12_isGrid 1 (some .boolean) := ⟨(lw_nestof 868 qw_868 rfl), wt_X12_isGrid, wn_KindGrids, wc_X12_isGrid, wd_X12_isGrid⟩
theorem wc_X10_isFoldable : Cond.code yX10_isFoldable cX10_isFoldable 5 (some .boolean) ∈ lw_ok := (lw_okof 871 qw_871 rfl)
theorem wd_X10_isFoldable : yX10_isFoldable.cls ≠ "java/lang/invoke/MethodHandle" ∧ yX10_isFoldable.cls ≠ "java/lang/invoke/VarHandle" ∧ (parseMethodDescriptor yX10_isFoldable.desc).map (fun d => d.parameters.length) = some 4 := ⟨pn_KindGrids_Sums.1, pn_KindGrids_Sums.2, pd_41⟩
theorem wt_X10_isFoldable : Cond.static yX10_isFoldable ∈ lw_ok := (lw_okof 870 qw_870 rfl)
theorem kRX10_41 : dnLS RX10 41 4 yX10_isFoldable cX10_isFoldable 5 (some .boolean) := ⟨(lw_okof 869 qw_869 rfl), wt_X10_isFoldable, wn_KindGrids_Sums, wc_X10_isFoldable, wd_X10_isFoldable⟩
theorem kRX10_45 : dnLV RX10 45 2 7 yX9_placeFault cX9_placeFault 4 (some .int) := ⟨(lw_okof 875 qw_875 rfl), wi_X9_placeFault, ws_X9_placeFault, wn_KindGrids_Store, wc_X9_placeFault, wd_X9_placeFault, by decide, _, rfl, rfl⟩
theorem kRX10_51 : dnLV RX10 51 1 7 yX9_gridFault cX9_gridFault 2 (some .int) := ⟨(lw_okof 876 qw_876 rfl), wi_X9_gridFault, ws_X9_gridFault, wn_KindGrids_Store, wc_X9_gridFault, wd_X9_gridFault, by decide, _, rfl, rfl⟩
theorem wc_X10_begin : Cond.code yX10_begin cX10_begin 1 none ∈ lw_ok := (lw_okof 880 qw_880 rfl)
theorem wd_X10_begin : yX10_begin.cls ≠ "java/lang/invoke/MethodHandle" ∧ yX10_begin.cls ≠ "java/lang/invoke/VarHandle" ∧ (parseMethodDescriptor yX10_begin.desc).map (fun d => d.parameters.length) = some 0 := ⟨pn_KindGrids_Sums.1, pn_KindGrids_Sums.2, pd_0⟩
theorem wi_X10_begin : Cond.instanceMethod yX10_begin ∈ lw_ok := (lw_okof 878 qw_878 rfl)
theorem ws_X10_begin : Cond.selects yX10_begin.cls yX10_begin yX10_begin ∈ lw_ok := (lw_okof 879 qw_879 rfl)
theorem kRX10_55 : dnLV RX10 55 0 8 yX10_begin cX10_begin 1 none := ⟨(lw_okof 877 qw_877 rfl), wi_X10_begin, ws_X10_begin, wn_KindGrids_Sums, wc_X10_begin, wd_X10_begin, by decide, _, rfl, rfl⟩
theorem kRX10_62 : dnLV RX10 62 2 7 yX9_cellsAt cX9_cellsAt 4 (some .int) := ⟨(lw_okof 881 qw_881 rfl), wi_X9_cellsAt, ws_X9_cellsAt, wn_KindGrids_Store, wc_X9_cellsAt, wd_X9_cellsAt, by decide, _, rfl, rfl⟩
theorem wc_X10_isChosen : Cond.code yX10_isChosen cX10_isChosen 4 (some .boolean) ∈ lw_ok := (lw_okof 884 qw_884 rfl)
theorem wd_X10_isChosen : yX10_isChosen.cls ≠ "java/lang/invoke/MethodHandle" ∧ yX10_isChosen.cls ≠ "java/lang/invoke/VarHandle" ∧ (parseMethodDescriptor yX10_isChosen.desc).map (fun d => d.parameters.length) = some 4 := ⟨pn_KindGrids_Sums.1, pn_KindGrids_Sums.2, pd_41⟩
theorem wt_X10_isChosen : Cond.static yX10_isChosen ∈ lw_ok := (lw_okof 883 qw_883 rfl)
theorem kRX10_65 : dnLS RX10 65 4 yX10_isChosen cX10_isChosen 4 (some .boolean) := ⟨(lw_okof 882 qw_882 rfl), wt_X10_isChosen, wn_KindGrids_Sums, wc_X10_isChosen, wd_X10_isChosen⟩
theorem kRX10_68 : dnLV RX10 68 2 7 yX9_rowAt cX9_rowAt 4 (some (.object "KindGrids$Row")) := ⟨(lw_okof 885 qw_885 rfl), wi_X9_rowAt, ws_X9_rowAt, wn_KindGrids_Store, wc_X9_rowAt, wd_X9_rowAt, by decide, _, rfl, rfl⟩
theorem wc_X10_take : Cond.code yX10_take cX10_take 7 (some .boolean) ∈ lw_ok := (lw_okof 889 qw_889 rfl)
theorem pd_45 : (parseMethodDescriptor "(LKindGrids$Row;III)Z").map (fun d => d.parameters.length) = some 4 := by decide +kernel
theorem wd_X10_take : yX10_take.cls ≠ "java/lang/invoke/MethodHandle" ∧ yX10_take.cls ≠ "java/lang/invoke/VarHandle" ∧ (parseMethodDescriptor yX10_take.desc).map (fun d => d.parameters.length) = some 4 := ⟨pn_KindGrids_Sums.1, pn_KindGrids_Sums.2, pd_45⟩
theorem wi_X10_take : Cond.instanceMethod yX10_take ∈ lw_ok := (lw_okof 887 qw_887 rfl)
theorem ws_X10_take : Cond.selects yX10_take.cls yX10_take yX10_take ∈ lw_ok := (lw_okof 888 qw_888 rfl)
theorem kRX10_72 : dnLV RX10 72 4 8 yX10_take cX10_take 7 (some .boolean) := ⟨(lw_okof 886 qw_886 rfl), wi_X10_take, ws_X10_take, wn_KindGrids_Sums, wc_X10_take, wd_X10_take, by decide, _, rfl, rfl⟩
theorem kRX10_76 : dnLSN RX10 RX12 76 1 yX12_codeOfReal cX12_codeOfReal 2 (some .long) := ⟨(lw_nestof 905 qw_905 rfl), wt_X12_codeOfReal, wn_KindGrids, wc_X12_codeOfReal, wd_X12_codeOfReal⟩
theorem kRX10_93 : dnLSN RX10 RX12 93 2 yX12_readsAs cX12_readsAs 2 (some .boolean) := ⟨(lw_nestof 890 qw_890 rfl), wt_X12_readsAs, wn_KindGrids, wc_X12_readsAs, wd_X12_readsAs⟩
theorem kRX10_97 : dnLV RX10 97 1 4 yX5_doubleAt cX5_doubleAt 2 (some .double) := ⟨(lw_okof 891 qw_891 rfl), wi_X5_doubleAt, ws_X5_doubleAt, wn_KindGrids_Row, wc_X5_doubleAt, wd_X5_doubleAt, by decide, _, rfl, rfl⟩
theorem wc_X10_combineReals : Cond.code yX10_combineReals cX10_combineReals 5 (some .double) ∈ lw_ok := (lw_okof 894 qw_894 rfl)
theorem pd_46 : (parseMethodDescriptor "(IDD)D").map (fun d => d.parameters.length) = some 3 := by decide +kernel
theorem wd_X10_combineReals : yX10_combineReals.cls ≠ "java/lang/invoke/MethodHandle" ∧ yX10_combineReals.cls ≠ "java/lang/invoke/VarHandle" ∧ (parseMethodDescriptor yX10_combineReals.desc).map (fun d => d.parameters.length) = some 3 := ⟨pn_KindGrids_Sums.1, pn_KindGrids_Sums.2, pd_46⟩
theorem wt_X10_combineReals : Cond.static yX10_combineReals ∈ lw_ok := (lw_okof 893 qw_893 rfl)
theorem kRX10_101 : dnLS RX10 101 3 yX10_combineReals cX10_combineReals 5 (some .double) := ⟨(lw_okof 892 qw_892 rfl), wt_X10_combineReals, wn_KindGrids_Sums, wc_X10_combineReals, wd_X10_combineReals⟩
theorem wc_X10_combineWholes : Cond.code yX10_combineWholes cX10_combineWholes 5 (some .long) ∈ lw_ok := (lw_okof 897 qw_897 rfl)
theorem pd_47 : (parseMethodDescriptor "(IJJ)J").map (fun d => d.parameters.length) = some 3 := by decide +kernel
theorem wd_X10_combineWholes : yX10_combineWholes.cls ≠ "java/lang/invoke/MethodHandle" ∧ yX10_combineWholes.cls ≠ "java/lang/invoke/VarHandle" ∧ (parseMethodDescriptor yX10_combineWholes.desc).map (fun d => d.parameters.length) = some 3 := ⟨pn_KindGrids_Sums.1, pn_KindGrids_Sums.2, pd_47⟩
theorem wt_X10_combineWholes : Cond.static yX10_combineWholes ∈ lw_ok := (lw_okof 896 qw_896 rfl)
theorem kRX10_108 : dnLS RX10 108 3 yX10_combineWholes cX10_combineWholes 5 (some .long) := ⟨(lw_okof 895 qw_895 rfl), wt_X10_combineWholes, wn_KindGrids_Sums, wc_X10_combineWholes, wd_X10_combineWholes⟩
theorem kRX10_112 : dnLSN RX10 RX12 112 2 yX12_narrowed cX12_narrowed 3 (some .long) := ⟨(lw_nestof 904 qw_904 rfl), wt_X12_narrowed, wn_KindGrids, wc_X12_narrowed, wd_X12_narrowed⟩
theorem wc_J9_min_f86c9 : Cond.code yJ9_min_f86c9 cJ9_min_f86c9 4 (some .long) ∈ lw_ok := (lw_okof 900 qw_900 rfl)
theorem wd_J9_min_f86c9 : yJ9_min_f86c9.cls ≠ "java/lang/invoke/MethodHandle" ∧ yJ9_min_f86c9.cls ≠ "java/lang/invoke/VarHandle" ∧ (parseMethodDescriptor yJ9_min_f86c9.desc).map (fun d => d.parameters.length) = some 2 := ⟨pn_java_lang_Math.1, pn_java_lang_Math.2, pd_40⟩
theorem wt_J9_min_f86c9 : Cond.static yJ9_min_f86c9 ∈ lw_ok := (lw_okof 899 qw_899 rfl)
theorem kRX10_116 : dnLS RX10 116 2 yJ9_min_f86c9 cJ9_min_f86c9 4 (some .long) := ⟨(lw_okof 898 qw_898 rfl), wt_J9_min_f86c9, wn_java_lang_Math, wc_J9_min_f86c9, wd_J9_min_f86c9⟩
theorem kRX10_122 : dnLS RX10 122 2 yJ9_max_f86c9 cJ9_max_f86c9 4 (some .long) := ⟨(lw_okof 901 qw_901 rfl), wt_J9_max_f86c9, wn_java_lang_Math, wc_J9_max_f86c9, wd_J9_max_f86c9⟩
theorem kRX10_125 : dnLV RX10 125 2 7 yX9_rowFault cX9_rowFault 4 (some .int) := ⟨(lw_okof 914 qw_914 rfl), wi_X9_rowFault, ws_X9_rowFault, wn_KindGrids_Store, wc_X9_rowFault, wd_X9_rowFault, by decide, _, rfl, rfl⟩
theorem kRX10_131 : dnLS RX10 131 2 yJ9_min_7cf53 cJ9_min_7cf53 2 (some .int) := ⟨(lw_okof 915 qw_915 rfl), wt_J9_min_7cf53, wn_java_lang_Math, wc_J9_min_7cf53, wd_J9_min_7cf53⟩
theorem kRX11_3 : Cond.methodLink RX11 3 Lib.objectInit ∈ lw_ok := (lw_okof 259 qw_259 rfl)
theorem kRX11_19 : dnLSN RX11 RX12 19 1 yX12_isGrid cX12_isGrid 1 (some .boolean) := ⟨(lw_nestof 792 qw_792 rfl), wt_X12_isGrid, wn_KindGrids, wc_X12_isGrid, wd_X12_isGrid⟩
theorem kRX11_23 : dnLV RX11 23 1 7 yX9_gridFault cX9_gridFault 2 (some .int) := ⟨(lw_okof 793 qw_793 rfl), wi_X9_gridFault, ws_X9_gridFault, wn_KindGrids_Store, wc_X9_gridFault, wd_X9_gridFault, by decide, _, rfl, rfl⟩
theorem kRX11_29 : dnLV RX11 29 2 7 yX9_placeFault cX9_placeFault 4 (some .int) := ⟨(lw_okof 794 qw_794 rfl), wi_X9_placeFault, ws_X9_placeFault, wn_KindGrids_Store, wc_X9_placeFault, wd_X9_placeFault, by decide, _, rfl, rfl⟩
theorem kRX11_37 : dnLV RX11 37 2 7 yX9_rowAt cX9_rowAt 4 (some (.object "KindGrids$Row")) := ⟨(lw_okof 795 qw_795 rfl), wi_X9_rowAt, ws_X9_rowAt, wn_KindGrids_Store, wc_X9_rowAt, wd_X9_rowAt, by decide, _, rfl, rfl⟩
theorem kRX11_50 : dnLSN RX11 RX12 50 1 yX12_leastKind cX12_leastKind 2 (some .int) := ⟨(lw_nestof 796 qw_796 rfl), wt_X12_leastKind, wn_KindGrids, wc_X12_leastKind, wd_X12_leastKind⟩
theorem kRX11_53 : dnLV RX11 53 2 7 yX9_freshRow cX9_freshRow 4 (some (.object "KindGrids$Row")) := ⟨(lw_okof 797 qw_797 rfl), wi_X9_freshRow, ws_X9_freshRow, wn_KindGrids_Store, wc_X9_freshRow, wd_X9_freshRow, by decide, _, rfl, rfl⟩
theorem kRX11_56 : dnLS RX11 56 5 yX6_append cX6_append 6 none := ⟨(lw_okof 798 qw_798 rfl), wt_X6_append, wn_KindGrids_Rows, wc_X6_append, wd_X6_append⟩
theorem kRX11_62 : dnLV RX11 62 3 7 yX9_place cX9_place 4 none := ⟨(lw_okof 799 qw_799 rfl), wi_X9_place, ws_X9_place, wn_KindGrids_Store, wc_X9_place, wd_X9_place, by decide, _, rfl, rfl⟩
theorem kRX11_66 : dnLV RX11 66 2 7 yX9_rowFault cX9_rowFault 4 (some .int) := ⟨(lw_okof 808 qw_808 rfl), wi_X9_rowFault, ws_X9_rowFault, wn_KindGrids_Store, wc_X9_rowFault, wd_X9_rowFault, by decide, _, rfl, rfl⟩
theorem kRX11_69 : dnLV RX11 69 1 7 yX9_startGrid cX9_startGrid 2 none := ⟨(lw_okof 809 qw_809 rfl), wi_X9_startGrid, ws_X9_startGrid, wn_KindGrids_Store, wc_X9_startGrid, wd_X9_startGrid, by decide, _, rfl, rfl⟩
theorem kRX11_73 : dnLS RX11 73 2 yJ9_min_7cf53 cJ9_min_7cf53 2 (some .int) := ⟨(lw_okof 810 qw_810 rfl), wt_J9_min_7cf53, wn_java_lang_Math, wc_J9_min_7cf53, wd_J9_min_7cf53⟩
theorem wc_X9_rowOfNewGrid : Cond.code yX9_rowOfNewGrid cX9_rowOfNewGrid 5 (some (.object "KindGrids$Row")) ∈ lw_ok := (lw_okof 816 qw_816 rfl)
theorem pd_48 : (parseMethodDescriptor "(III)LKindGrids$Row;").map (fun d => d.parameters.length) = some 3 := by decide +kernel
theorem wd_X9_rowOfNewGrid : yX9_rowOfNewGrid.cls ≠ "java/lang/invoke/MethodHandle" ∧ yX9_rowOfNewGrid.cls ≠ "java/lang/invoke/VarHandle" ∧ (parseMethodDescriptor yX9_rowOfNewGrid.desc).map (fun d => d.parameters.length) = some 3 := ⟨pn_KindGrids_Store.1, pn_KindGrids_Store.2, pd_48⟩
theorem wi_X9_rowOfNewGrid : Cond.instanceMethod yX9_rowOfNewGrid ∈ lw_ok := (lw_okof 814 qw_814 rfl)
theorem ws_X9_rowOfNewGrid : Cond.selects yX9_rowOfNewGrid.cls yX9_rowOfNewGrid yX9_rowOfNewGrid ∈ lw_ok := (lw_okof 815 qw_815 rfl)
theorem kRX11_78 : dnLV RX11 78 3 7 yX9_rowOfNewGrid cX9_rowOfNewGrid 5 (some (.object "KindGrids$Row")) := ⟨(lw_okof 813 qw_813 rfl), wi_X9_rowOfNewGrid, ws_X9_rowOfNewGrid, wn_KindGrids_Store, wc_X9_rowOfNewGrid, wd_X9_rowOfNewGrid, by decide, _, rfl, rfl⟩
theorem kRX11_82 : dnLV RX11 82 1 7 yX9_finishGrid cX9_finishGrid 3 (some .int) := ⟨(lw_okof 817 qw_817 rfl), wi_X9_finishGrid, ws_X9_finishGrid, wn_KindGrids_Store, wc_X9_finishGrid, wd_X9_finishGrid, by decide, _, rfl, rfl⟩
theorem wc_X9_longestRow : Cond.code yX9_longestRow cX9_longestRow 4 (some .int) ∈ lw_ok := (lw_okof 829 qw_829 rfl)
theorem wd_X9_longestRow : yX9_longestRow.cls ≠ "java/lang/invoke/MethodHandle" ∧ yX9_longestRow.cls ≠ "java/lang/invoke/VarHandle" ∧ (parseMethodDescriptor yX9_longestRow.desc).map (fun d => d.parameters.length) = some 1 := ⟨pn_KindGrids_Store.1, pn_KindGrids_Store.2, pd_4⟩
theorem wi_X9_longestRow : Cond.instanceMethod yX9_longestRow ∈ lw_ok := (lw_okof 827 qw_827 rfl)
theorem ws_X9_longestRow : Cond.selects yX9_longestRow.cls yX9_longestRow yX9_longestRow ∈ lw_ok := (lw_okof 828 qw_828 rfl)
theorem kRX11_85 : dnLV RX11 85 1 7 yX9_longestRow cX9_longestRow 4 (some .int) := ⟨(lw_okof 826 qw_826 rfl), wi_X9_longestRow, ws_X9_longestRow, wn_KindGrids_Store, wc_X9_longestRow, wd_X9_longestRow, by decide, _, rfl, rfl⟩
theorem wc_X11_makeColumn : Cond.code yX11_makeColumn cX11_makeColumn 9 none ∈ lw_ok := (lw_okof 840 qw_840 rfl)
theorem wd_X11_makeColumn : yX11_makeColumn.cls ≠ "java/lang/invoke/MethodHandle" ∧ yX11_makeColumn.cls ≠ "java/lang/invoke/VarHandle" ∧ (parseMethodDescriptor yX11_makeColumn.desc).map (fun d => d.parameters.length) = some 2 := ⟨pn_KindGrids_Wholes.1, pn_KindGrids_Wholes.2, pd_23⟩
theorem wi_X11_makeColumn : Cond.instanceMethod yX11_makeColumn ∈ lw_ok := (lw_okof 838 qw_838 rfl)
theorem ws_X11_makeColumn : Cond.selects yX11_makeColumn.cls yX11_makeColumn yX11_makeColumn ∈ lw_ok := (lw_okof 839 qw_839 rfl)
theorem kRX11_88 : dnLV RX11 88 2 9 yX11_makeColumn cX11_makeColumn 9 none := ⟨(lw_okof 837 qw_837 rfl), wi_X11_makeColumn, ws_X11_makeColumn, wn_KindGrids_Wholes, wc_X11_makeColumn, wd_X11_makeColumn, by decide, _, rfl, rfl⟩
theorem kRX11_92 : dnLV RX11 92 1 4 yX5_hasCell cX5_hasCell 2 (some .boolean) := ⟨(lw_okof 841 qw_841 rfl), wi_X5_hasCell, ws_X5_hasCell, wn_KindGrids_Row, wc_X5_hasCell, wd_X5_hasCell, by decide, _, rfl, rfl⟩
theorem kRX11_95 : dnLV RX11 95 3 4 yX5_accept cX5_accept 5 (some .boolean) := ⟨(lw_okof 842 qw_842 rfl), wi_X5_accept, ws_X5_accept, wn_KindGrids_Row, wc_X5_accept, wd_X5_accept, by decide, _, rfl, rfl⟩
theorem kRX11_99 : dnLV RX11 99 2 7 yX9_firstUnreadable cX9_firstUnreadable 5 (some .int) := ⟨(lw_okof 851 qw_851 rfl), wi_X9_firstUnreadable, ws_X9_firstUnreadable, wn_KindGrids_Store, wc_X9_firstUnreadable, wd_X9_firstUnreadable, by decide, _, rfl, rfl⟩
theorem wc_X11_addProducts : Cond.code yX11_addProducts cX11_addProducts 7 none ∈ lw_ok := (lw_okof 859 qw_859 rfl)
theorem pd_49 : (parseMethodDescriptor "(LKindGrids$Row;LKindGrids$Row;I)V").map (fun d => d.parameters.length) = some 3 := by decide +kernel
theorem wd_X11_addProducts : yX11_addProducts.cls ≠ "java/lang/invoke/MethodHandle" ∧ yX11_addProducts.cls ≠ "java/lang/invoke/VarHandle" ∧ (parseMethodDescriptor yX11_addProducts.desc).map (fun d => d.parameters.length) = some 3 := ⟨pn_KindGrids_Wholes.1, pn_KindGrids_Wholes.2, pd_49⟩
theorem wi_X11_addProducts : Cond.instanceMethod yX11_addProducts ∈ lw_ok := (lw_okof 857 qw_857 rfl)
theorem ws_X11_addProducts : Cond.selects yX11_addProducts.cls yX11_addProducts yX11_addProducts ∈ lw_ok := (lw_okof 858 qw_858 rfl)
theorem kRX11_107 : dnLV RX11 107 3 9 yX11_addProducts cX11_addProducts 7 none := ⟨(lw_okof 856 qw_856 rfl), wi_X11_addProducts, ws_X11_addProducts, wn_KindGrids_Wholes, wc_X11_addProducts, wd_X11_addProducts, by decide, _, rfl, rfl⟩
theorem kRX13_1 : Cond.methodLink RX13 1 Lib.objectInit ∈ lw_ok := (lw_okof 1303 qw_1303 rfl)
theorem wn_KindGridsModel : Cond.initialized "KindGridsModel" ∈ lw_ok := (lw_okof 116 qw_116 rfl)
theorem wc_X13_in : Cond.code yX13_in cX13_in 3 (some .boolean) ∈ lw_ok := (lw_okof 1452 qw_1452 rfl)
theorem pd_50 : (parseMethodDescriptor "(III)Z").map (fun d => d.parameters.length) = some 3 := by decide +kernel
theorem pn_KindGridsModel : ("KindGridsModel" : String) ≠ "java/lang/invoke/MethodHandle" ∧ ("KindGridsModel" : String) ≠ "java/lang/invoke/VarHandle" := by decide +kernel
theorem wd_X13_in : yX13_in.cls ≠ "java/lang/invoke/MethodHandle" ∧ yX13_in.cls ≠ "java/lang/invoke/VarHandle" ∧ (parseMethodDescriptor yX13_in.desc).map (fun d => d.parameters.length) = some 3 := ⟨pn_KindGridsModel.1, pn_KindGridsModel.2, pd_50⟩
theorem wt_X13_in : Cond.static yX13_in ∈ lw_ok := (lw_okof 1451 qw_1451 rfl)
theorem kRX13_109 : dnLS RX13 109 3 yX13_in cX13_in 3 (some .boolean) := ⟨(lw_okof 1450 qw_1450 rfl), wt_X13_in, wn_KindGridsModel, wc_X13_in, wd_X13_in⟩
theorem wc_X13_ends : Cond.code yX13_ends cX13_ends 2 none ∈ lw_ok := (lw_okof 1460 qw_1460 rfl)
theorem wd_X13_ends : yX13_ends.cls ≠ "java/lang/invoke/MethodHandle" ∧ yX13_ends.cls ≠ "java/lang/invoke/VarHandle" ∧ (parseMethodDescriptor yX13_ends.desc).map (fun d => d.parameters.length) = some 0 := ⟨pn_KindGridsModel.1, pn_KindGridsModel.2, pd_0⟩
theorem wi_X13_ends : Cond.instanceMethod yX13_ends ∈ lw_ok := (lw_okof 1459 qw_1459 rfl)
theorem ws_X13_ends : Cond.selects yX13_ends.cls yX13_ends yX13_ends ∈ lw_ok := (lw_okof 4 qw_4 rfl)
theorem kRX13_113 : dnLV RX13 113 0 11 yX13_ends cX13_ends 2 none := ⟨(lw_okof 1457 qw_1457 rfl), wi_X13_ends, ws_X13_ends, wn_KindGridsModel, wc_X13_ends, wd_X13_ends, by decide, _, rfl, rfl⟩
theorem wc_X13_isHeld : Cond.code yX13_isHeld cX13_isHeld 4 (some .boolean) ∈ lw_ok := (lw_okof 1499 qw_1499 rfl)
theorem wd_X13_isHeld : yX13_isHeld.cls ≠ "java/lang/invoke/MethodHandle" ∧ yX13_isHeld.cls ≠ "java/lang/invoke/VarHandle" ∧ (parseMethodDescriptor yX13_isHeld.desc).map (fun d => d.parameters.length) = some 1 := ⟨pn_KindGridsModel.1, pn_KindGridsModel.2, pd_13⟩
theorem wi_X13_isHeld : Cond.instanceMethod yX13_isHeld ∈ lw_ok := (lw_okof 1498 qw_1498 rfl)
theorem ws_X13_isHeld : Cond.selects yX13_isHeld.cls yX13_isHeld yX13_isHeld ∈ lw_ok := (lw_okof 11 qw_11 rfl)
theorem kRX13_120 : dnLV RX13 120 1 11 yX13_isHeld cX13_isHeld 4 (some .boolean) := ⟨(lw_okof 1496 qw_1496 rfl), wi_X13_isHeld, ws_X13_isHeld, wn_KindGridsModel, wc_X13_isHeld, wd_X13_isHeld, by decide, _, rfl, rfl⟩
theorem wc_X13_placeFault : Cond.code yX13_placeFault cX13_placeFault 3 (some .int) ∈ lw_ok := (lw_okof 1491 qw_1491 rfl)
theorem wd_X13_placeFault : yX13_placeFault.cls ≠ "java/lang/invoke/MethodHandle" ∧ yX13_placeFault.cls ≠ "java/lang/invoke/VarHandle" ∧ (parseMethodDescriptor yX13_placeFault.desc).map (fun d => d.parameters.length) = some 2 := ⟨pn_KindGridsModel.1, pn_KindGridsModel.2, pd_3⟩
theorem wi_X13_placeFault : Cond.instanceMethod yX13_placeFault ∈ lw_ok := (lw_okof 1490 qw_1490 rfl)
theorem ws_X13_placeFault : Cond.selects yX13_placeFault.cls yX13_placeFault yX13_placeFault ∈ lw_ok := (lw_okof 9 qw_9 rfl)
theorem kRX13_124 : dnLV RX13 124 2 11 yX13_placeFault cX13_placeFault 3 (some .int) := ⟨(lw_okof 1488 qw_1488 rfl), wi_X13_placeFault, ws_X13_placeFault, wn_KindGridsModel, wc_X13_placeFault, wd_X13_placeFault, by decide, _, rfl, rfl⟩
theorem wc_X13_held : Cond.code yX13_held cX13_held 3 (some .int) ∈ lw_ok := (lw_okof 1523 qw_1523 rfl)
theorem wd_X13_held : yX13_held.cls ≠ "java/lang/invoke/MethodHandle" ∧ yX13_held.cls ≠ "java/lang/invoke/VarHandle" ∧ (parseMethodDescriptor yX13_held.desc).map (fun d => d.parameters.length) = some 2 := ⟨pn_KindGridsModel.1, pn_KindGridsModel.2, pd_3⟩
theorem wi_X13_held : Cond.instanceMethod yX13_held ∈ lw_ok := (lw_okof 1522 qw_1522 rfl)
theorem ws_X13_held : Cond.selects yX13_held.cls yX13_held yX13_held ∈ lw_ok := (lw_okof 15 qw_15 rfl)
theorem kRX13_128 : dnLV RX13 128 2 11 yX13_held cX13_held 3 (some .int) := ⟨(lw_okof 1520 qw_1520 rfl), wi_X13_held, ws_X13_held, wn_KindGridsModel, wc_X13_held, wd_X13_held, by decide, _, rfl, rfl⟩
theorem wc_X13_rowFault : Cond.code yX13_rowFault cX13_rowFault 5 (some .int) ∈ lw_ok := (lw_okof 1559 qw_1559 rfl)
theorem wd_X13_rowFault : yX13_rowFault.cls ≠ "java/lang/invoke/MethodHandle" ∧ yX13_rowFault.cls ≠ "java/lang/invoke/VarHandle" ∧ (parseMethodDescriptor yX13_rowFault.desc).map (fun d => d.parameters.length) = some 2 := ⟨pn_KindGridsModel.1, pn_KindGridsModel.2, pd_3⟩
theorem wi_X13_rowFault : Cond.instanceMethod yX13_rowFault ∈ lw_ok := (lw_okof 1558 qw_1558 rfl)
theorem ws_X13_rowFault : Cond.selects yX13_rowFault.cls yX13_rowFault yX13_rowFault ∈ lw_ok := (lw_okof 21 qw_21 rfl)
theorem kRX13_131 : dnLV RX13 131 2 11 yX13_rowFault cX13_rowFault 5 (some .int) := ⟨(lw_okof 1556 qw_1556 rfl), wi_X13_rowFault, ws_X13_rowFault, wn_KindGridsModel, wc_X13_rowFault, wd_X13_rowFault, by decide, _, rfl, rfl⟩
theorem wc_X13_isGrid : Cond.code yX13_isGrid cX13_isGrid 1 (some .boolean) ∈ lw_ok := (lw_okof 1449 qw_1449 rfl)
theorem wd_X13_isGrid : yX13_isGrid.cls ≠ "java/lang/invoke/MethodHandle" ∧ yX13_isGrid.cls ≠ "java/lang/invoke/VarHandle" ∧ (parseMethodDescriptor yX13_isGrid.desc).map (fun d => d.parameters.length) = some 1 := ⟨pn_KindGridsModel.1, pn_KindGridsModel.2, pd_13⟩
theorem wt_X13_isGrid : Cond.static yX13_isGrid ∈ lw_ok := (lw_okof 1448 qw_1448 rfl)
theorem kRX13_134 : dnLS RX13 134 1 yX13_isGrid cX13_isGrid 1 (some .boolean) := ⟨(lw_okof 1447 qw_1447 rfl), wt_X13_isGrid, wn_KindGridsModel, wc_X13_isGrid, wd_X13_isGrid⟩
theorem wc_X13_said : Cond.code yX13_said cX13_said 2 (some .int) ∈ lw_ok := (lw_okof 1456 qw_1456 rfl)
theorem wd_X13_said : yX13_said.cls ≠ "java/lang/invoke/MethodHandle" ∧ yX13_said.cls ≠ "java/lang/invoke/VarHandle" ∧ (parseMethodDescriptor yX13_said.desc).map (fun d => d.parameters.length) = some 1 := ⟨pn_KindGridsModel.1, pn_KindGridsModel.2, pd_4⟩
theorem wi_X13_said : Cond.instanceMethod yX13_said ∈ lw_ok := (lw_okof 1455 qw_1455 rfl)
theorem ws_X13_said : Cond.selects yX13_said.cls yX13_said yX13_said ∈ lw_ok := (lw_okof 3 qw_3 rfl)
theorem kRX13_137 : dnLV RX13 137 1 11 yX13_said cX13_said 2 (some .int) := ⟨(lw_okof 1453 qw_1453 rfl), wi_X13_said, ws_X13_said, wn_KindGridsModel, wc_X13_said, wd_X13_said, by decide, _, rfl, rfl⟩
theorem wc_X13_anew : Cond.code yX13_anew cX13_anew 4 none ∈ lw_ok := (lw_okof 1464 qw_1464 rfl)
theorem wd_X13_anew : yX13_anew.cls ≠ "java/lang/invoke/MethodHandle" ∧ yX13_anew.cls ≠ "java/lang/invoke/VarHandle" ∧ (parseMethodDescriptor yX13_anew.desc).map (fun d => d.parameters.length) = some 2 := ⟨pn_KindGridsModel.1, pn_KindGridsModel.2, pd_23⟩
theorem wi_X13_anew : Cond.instanceMethod yX13_anew ∈ lw_ok := (lw_okof 1463 qw_1463 rfl)
theorem ws_X13_anew : Cond.selects yX13_anew.cls yX13_anew yX13_anew ∈ lw_ok := (lw_okof 5 qw_5 rfl)
theorem kRX13_141 : dnLV RX13 141 2 11 yX13_anew cX13_anew 4 none := ⟨(lw_okof 1461 qw_1461 rfl), wi_X13_anew, ws_X13_anew, wn_KindGridsModel, wc_X13_anew, wd_X13_anew, by decide, _, rfl, rfl⟩
theorem wc_X13_holdsNow : Cond.code yX13_holdsNow cX13_holdsNow 4 none ∈ lw_ok := (lw_okof 1468 qw_1468 rfl)
theorem wd_X13_holdsNow : yX13_holdsNow.cls ≠ "java/lang/invoke/MethodHandle" ∧ yX13_holdsNow.cls ≠ "java/lang/invoke/VarHandle" ∧ (parseMethodDescriptor yX13_holdsNow.desc).map (fun d => d.parameters.length) = some 3 := ⟨pn_KindGridsModel.1, pn_KindGridsModel.2, pd_22⟩
theorem wi_X13_holdsNow : Cond.instanceMethod yX13_holdsNow ∈ lw_ok := (lw_okof 1467 qw_1467 rfl)
theorem ws_X13_holdsNow : Cond.selects yX13_holdsNow.cls yX13_holdsNow yX13_holdsNow ∈ lw_ok := (lw_okof 6 qw_6 rfl)
theorem kRX13_145 : dnLV RX13 145 3 11 yX13_holdsNow cX13_holdsNow 4 none := ⟨(lw_okof 1465 qw_1465 rfl), wi_X13_holdsNow, ws_X13_holdsNow, wn_KindGridsModel, wc_X13_holdsNow, wd_X13_holdsNow, by decide, _, rfl, rfl⟩
theorem wc_X13_dropDeed : Cond.code yX13_dropDeed cX13_dropDeed 3 (some .int) ∈ lw_ok := (lw_okof 1476 qw_1476 rfl)
theorem wd_X13_dropDeed : yX13_dropDeed.cls ≠ "java/lang/invoke/MethodHandle" ∧ yX13_dropDeed.cls ≠ "java/lang/invoke/VarHandle" ∧ (parseMethodDescriptor yX13_dropDeed.desc).map (fun d => d.parameters.length) = some 1 := ⟨pn_KindGridsModel.1, pn_KindGridsModel.2, pd_4⟩
theorem wi_X13_dropDeed : Cond.instanceMethod yX13_dropDeed ∈ lw_ok := (lw_okof 1475 qw_1475 rfl)
theorem ws_X13_dropDeed : Cond.selects yX13_dropDeed.cls yX13_dropDeed yX13_dropDeed ∈ lw_ok := (lw_okof 7 qw_7 rfl)
theorem kRX13_149 : dnLV RX13 149 1 11 yX13_dropDeed cX13_dropDeed 3 (some .int) := ⟨(lw_okof 1473 qw_1473 rfl), wi_X13_dropDeed, ws_X13_dropDeed, wn_KindGridsModel, wc_X13_dropDeed, wd_X13_dropDeed, by decide, _, rfl, rfl⟩
theorem wc_X13_isKind : Cond.code yX13_isKind cX13_isKind 1 (some .boolean) ∈ lw_ok := (lw_okof 1487 qw_1487 rfl)
theorem wd_X13_isKind : yX13_isKind.cls ≠ "java/lang/invoke/MethodHandle" ∧ yX13_isKind.cls ≠ "java/lang/invoke/VarHandle" ∧ (parseMethodDescriptor yX13_isKind.desc).map (fun d => d.parameters.length) = some 1 := ⟨pn_KindGridsModel.1, pn_KindGridsModel.2, pd_13⟩
theorem wt_X13_isKind : Cond.static yX13_isKind ∈ lw_ok := (lw_okof 1486 qw_1486 rfl)
theorem kRX13_152 : dnLS RX13 152 1 yX13_isKind cX13_isKind 1 (some .boolean) := ⟨(lw_okof 1485 qw_1485 rfl), wt_X13_isKind, wn_KindGridsModel, wc_X13_isKind, wd_X13_isKind⟩
theorem wc_X13_newRow : Cond.code yX13_newRow cX13_newRow 5 (some .int) ∈ lw_ok := (lw_okof 1495 qw_1495 rfl)
theorem wd_X13_newRow : yX13_newRow.cls ≠ "java/lang/invoke/MethodHandle" ∧ yX13_newRow.cls ≠ "java/lang/invoke/VarHandle" ∧ (parseMethodDescriptor yX13_newRow.desc).map (fun d => d.parameters.length) = some 2 := ⟨pn_KindGridsModel.1, pn_KindGridsModel.2, pd_3⟩
theorem wi_X13_newRow : Cond.instanceMethod yX13_newRow ∈ lw_ok := (lw_okof 1494 qw_1494 rfl)
theorem ws_X13_newRow : Cond.selects yX13_newRow.cls yX13_newRow yX13_newRow ∈ lw_ok := (lw_okof 10 qw_10 rfl)
theorem kRX13_155 : dnLV RX13 155 2 11 yX13_newRow cX13_newRow 5 (some .int) := ⟨(lw_okof 1492 qw_1492 rfl), wi_X13_newRow, ws_X13_newRow, wn_KindGridsModel, wc_X13_newRow, wd_X13_newRow, by decide, _, rfl, rfl⟩
theorem wc_X13_rowDeed : Cond.code yX13_rowDeed cX13_rowDeed 6 (some .int) ∈ lw_ok := (lw_okof 1484 qw_1484 rfl)
theorem wd_X13_rowDeed : yX13_rowDeed.cls ≠ "java/lang/invoke/MethodHandle" ∧ yX13_rowDeed.cls ≠ "java/lang/invoke/VarHandle" ∧ (parseMethodDescriptor yX13_rowDeed.desc).map (fun d => d.parameters.length) = some 4 := ⟨pn_KindGridsModel.1, pn_KindGridsModel.2, pd_5⟩
theorem wi_X13_rowDeed : Cond.instanceMethod yX13_rowDeed ∈ lw_ok := (lw_okof 1483 qw_1483 rfl)
theorem ws_X13_rowDeed : Cond.selects yX13_rowDeed.cls yX13_rowDeed yX13_rowDeed ∈ lw_ok := (lw_okof 8 qw_8 rfl)
theorem kRX13_158 : dnLV RX13 158 4 11 yX13_rowDeed cX13_rowDeed 6 (some .int) := ⟨(lw_okof 1481 qw_1481 rfl), wi_X13_rowDeed, ws_X13_rowDeed, wn_KindGridsModel, wc_X13_rowDeed, wd_X13_rowDeed, by decide, _, rfl, rfl⟩
theorem wc_X13_thingDeed : Cond.code yX13_thingDeed cX13_thingDeed 5 (some .int) ∈ lw_ok := (lw_okof 1507 qw_1507 rfl)
theorem wd_X13_thingDeed : yX13_thingDeed.cls ≠ "java/lang/invoke/MethodHandle" ∧ yX13_thingDeed.cls ≠ "java/lang/invoke/VarHandle" ∧ (parseMethodDescriptor yX13_thingDeed.desc).map (fun d => d.parameters.length) = some 3 := ⟨pn_KindGridsModel.1, pn_KindGridsModel.2, pd_6⟩
theorem wi_X13_thingDeed : Cond.instanceMethod yX13_thingDeed ∈ lw_ok := (lw_okof 1506 qw_1506 rfl)
theorem ws_X13_thingDeed : Cond.selects yX13_thingDeed.cls yX13_thingDeed yX13_thingDeed ∈ lw_ok := (lw_okof 12 qw_12 rfl)
theorem kRX13_162 : dnLV RX13 162 3 11 yX13_thingDeed cX13_thingDeed 5 (some .int) := ⟨(lw_okof 1504 qw_1504 rfl), wi_X13_thingDeed, ws_X13_thingDeed, wn_KindGridsModel, wc_X13_thingDeed, wd_X13_thingDeed, by decide, _, rfl, rfl⟩
theorem wc_X13_twoPlaces : Cond.code yX13_twoPlaces cX13_twoPlaces 6 (some .int) ∈ lw_ok := (lw_okof 1519 qw_1519 rfl)
theorem wd_X13_twoPlaces : yX13_twoPlaces.cls ≠ "java/lang/invoke/MethodHandle" ∧ yX13_twoPlaces.cls ≠ "java/lang/invoke/VarHandle" ∧ (parseMethodDescriptor yX13_twoPlaces.desc).map (fun d => d.parameters.length) = some 4 := ⟨pn_KindGridsModel.1, pn_KindGridsModel.2, pd_5⟩
theorem wi_X13_twoPlaces : Cond.instanceMethod yX13_twoPlaces ∈ lw_ok := (lw_okof 1518 qw_1518 rfl)
theorem ws_X13_twoPlaces : Cond.selects yX13_twoPlaces.cls yX13_twoPlaces yX13_twoPlaces ∈ lw_ok := (lw_okof 14 qw_14 rfl)
theorem kRX13_166 : dnLV RX13 166 4 11 yX13_twoPlaces cX13_twoPlaces 6 (some .int) := ⟨(lw_okof 1516 qw_1516 rfl), wi_X13_twoPlaces, ws_X13_twoPlaces, wn_KindGridsModel, wc_X13_twoPlaces, wd_X13_twoPlaces, by decide, _, rfl, rfl⟩
theorem wc_X13_holdsOf : Cond.code yX13_holdsOf cX13_holdsOf 4 (some .int) ∈ lw_ok := (lw_okof 1527 qw_1527 rfl)
theorem wd_X13_holdsOf : yX13_holdsOf.cls ≠ "java/lang/invoke/MethodHandle" ∧ yX13_holdsOf.cls ≠ "java/lang/invoke/VarHandle" ∧ (parseMethodDescriptor yX13_holdsOf.desc).map (fun d => d.parameters.length) = some 2 := ⟨pn_KindGridsModel.1, pn_KindGridsModel.2, pd_3⟩
theorem wi_X13_holdsOf : Cond.instanceMethod yX13_holdsOf ∈ lw_ok := (lw_okof 1526 qw_1526 rfl)
theorem ws_X13_holdsOf : Cond.selects yX13_holdsOf.cls yX13_holdsOf yX13_holdsOf ∈ lw_ok := (lw_okof 16 qw_16 rfl)
theorem kRX13_169 : dnLV RX13 169 2 11 yX13_holdsOf cX13_holdsOf 4 (some .int) := ⟨(lw_okof 1524 qw_1524 rfl), wi_X13_holdsOf, ws_X13_holdsOf, wn_KindGridsModel, wc_X13_holdsOf, wd_X13_holdsOf, by decide, _, rfl, rfl⟩
theorem wc_X13_shareDeed : Cond.code yX13_shareDeed cX13_shareDeed 6 (some .int) ∈ lw_ok := (lw_okof 1515 qw_1515 rfl)
theorem wd_X13_shareDeed : yX13_shareDeed.cls ≠ "java/lang/invoke/MethodHandle" ∧ yX13_shareDeed.cls ≠ "java/lang/invoke/VarHandle" ∧ (parseMethodDescriptor yX13_shareDeed.desc).map (fun d => d.parameters.length) = some 4 := ⟨pn_KindGridsModel.1, pn_KindGridsModel.2, pd_5⟩
theorem wi_X13_shareDeed : Cond.instanceMethod yX13_shareDeed ∈ lw_ok := (lw_okof 1514 qw_1514 rfl)
theorem ws_X13_shareDeed : Cond.selects yX13_shareDeed.cls yX13_shareDeed yX13_shareDeed ∈ lw_ok := (lw_okof 13 qw_13 rfl)
theorem kRX13_172 : dnLV RX13 172 4 11 yX13_shareDeed cX13_shareDeed 6 (some .int) := ⟨(lw_okof 1512 qw_1512 rfl), wi_X13_shareDeed, ws_X13_shareDeed, wn_KindGridsModel, wc_X13_shareDeed, wd_X13_shareDeed, by decide, _, rfl, rfl⟩
theorem wc_X13_swapDeed : Cond.code yX13_swapDeed cX13_swapDeed 7 (some .int) ∈ lw_ok := (lw_okof 1535 qw_1535 rfl)
theorem wd_X13_swapDeed : yX13_swapDeed.cls ≠ "java/lang/invoke/MethodHandle" ∧ yX13_swapDeed.cls ≠ "java/lang/invoke/VarHandle" ∧ (parseMethodDescriptor yX13_swapDeed.desc).map (fun d => d.parameters.length) = some 4 := ⟨pn_KindGridsModel.1, pn_KindGridsModel.2, pd_5⟩
theorem wi_X13_swapDeed : Cond.instanceMethod yX13_swapDeed ∈ lw_ok := (lw_okof 1534 qw_1534 rfl)
theorem ws_X13_swapDeed : Cond.selects yX13_swapDeed.cls yX13_swapDeed yX13_swapDeed ∈ lw_ok := (lw_okof 17 qw_17 rfl)
theorem kRX13_175 : dnLV RX13 175 4 11 yX13_swapDeed cX13_swapDeed 7 (some .int) := ⟨(lw_okof 1532 qw_1532 rfl), wi_X13_swapDeed, ws_X13_swapDeed, wn_KindGridsModel, wc_X13_swapDeed, wd_X13_swapDeed, by decide, _, rfl, rfl⟩
theorem wc_X13_holdsAnswer : Cond.code yX13_holdsAnswer cX13_holdsAnswer 4 (some .int) ∈ lw_ok := (lw_okof 1543 qw_1543 rfl)
theorem wd_X13_holdsAnswer : yX13_holdsAnswer.cls ≠ "java/lang/invoke/MethodHandle" ∧ yX13_holdsAnswer.cls ≠ "java/lang/invoke/VarHandle" ∧ (parseMethodDescriptor yX13_holdsAnswer.desc).map (fun d => d.parameters.length) = some 2 := ⟨pn_KindGridsModel.1, pn_KindGridsModel.2, pd_3⟩
theorem wi_X13_holdsAnswer : Cond.instanceMethod yX13_holdsAnswer ∈ lw_ok := (lw_okof 1542 qw_1542 rfl)
theorem ws_X13_holdsAnswer : Cond.selects yX13_holdsAnswer.cls yX13_holdsAnswer yX13_holdsAnswer ∈ lw_ok := (lw_okof 18 qw_18 rfl)
theorem kRX13_178 : dnLV RX13 178 2 11 yX13_holdsAnswer cX13_holdsAnswer 4 (some .int) := ⟨(lw_okof 1540 qw_1540 rfl), wi_X13_holdsAnswer, ws_X13_holdsAnswer, wn_KindGridsModel, wc_X13_holdsAnswer, wd_X13_holdsAnswer, by decide, _, rfl, rfl⟩
theorem wc_X13_twoRows : Cond.code yX13_twoRows cX13_twoRows 6 (some .int) ∈ lw_ok := (lw_okof 1555 qw_1555 rfl)
theorem wd_X13_twoRows : yX13_twoRows.cls ≠ "java/lang/invoke/MethodHandle" ∧ yX13_twoRows.cls ≠ "java/lang/invoke/VarHandle" ∧ (parseMethodDescriptor yX13_twoRows.desc).map (fun d => d.parameters.length) = some 4 := ⟨pn_KindGridsModel.1, pn_KindGridsModel.2, pd_5⟩
theorem wi_X13_twoRows : Cond.instanceMethod yX13_twoRows ∈ lw_ok := (lw_okof 1554 qw_1554 rfl)
theorem ws_X13_twoRows : Cond.selects yX13_twoRows.cls yX13_twoRows yX13_twoRows ∈ lw_ok := (lw_okof 20 qw_20 rfl)
theorem kRX13_181 : dnLV RX13 181 4 11 yX13_twoRows cX13_twoRows 6 (some .int) := ⟨(lw_okof 1552 qw_1552 rfl), wi_X13_twoRows, ws_X13_twoRows, wn_KindGridsModel, wc_X13_twoRows, wd_X13_twoRows, by decide, _, rfl, rfl⟩
theorem wc_X13_sameAnswer : Cond.code yX13_sameAnswer cX13_sameAnswer 6 (some .int) ∈ lw_ok := (lw_okof 1551 qw_1551 rfl)
theorem wd_X13_sameAnswer : yX13_sameAnswer.cls ≠ "java/lang/invoke/MethodHandle" ∧ yX13_sameAnswer.cls ≠ "java/lang/invoke/VarHandle" ∧ (parseMethodDescriptor yX13_sameAnswer.desc).map (fun d => d.parameters.length) = some 4 := ⟨pn_KindGridsModel.1, pn_KindGridsModel.2, pd_5⟩
theorem wi_X13_sameAnswer : Cond.instanceMethod yX13_sameAnswer ∈ lw_ok := (lw_okof 1550 qw_1550 rfl)
theorem ws_X13_sameAnswer : Cond.selects yX13_sameAnswer.cls yX13_sameAnswer yX13_sameAnswer ∈ lw_ok := (lw_okof 19 qw_19 rfl)
theorem kRX13_184 : dnLV RX13 184 4 11 yX13_sameAnswer cX13_sameAnswer 6 (some .int) := ⟨(lw_okof 1548 qw_1548 rfl), wi_X13_sameAnswer, ws_X13_sameAnswer, wn_KindGridsModel, wc_X13_sameAnswer, wd_X13_sameAnswer, by decide, _, rfl, rfl⟩
theorem wc_X13_sizeAnswer : Cond.code yX13_sizeAnswer cX13_sizeAnswer 4 (some .int) ∈ lw_ok := (lw_okof 1567 qw_1567 rfl)
theorem wd_X13_sizeAnswer : yX13_sizeAnswer.cls ≠ "java/lang/invoke/MethodHandle" ∧ yX13_sizeAnswer.cls ≠ "java/lang/invoke/VarHandle" ∧ (parseMethodDescriptor yX13_sizeAnswer.desc).map (fun d => d.parameters.length) = some 2 := ⟨pn_KindGridsModel.1, pn_KindGridsModel.2, pd_3⟩
theorem wi_X13_sizeAnswer : Cond.instanceMethod yX13_sizeAnswer ∈ lw_ok := (lw_okof 1566 qw_1566 rfl)
theorem ws_X13_sizeAnswer : Cond.selects yX13_sizeAnswer.cls yX13_sizeAnswer yX13_sizeAnswer ∈ lw_ok := (lw_okof 22 qw_22 rfl)
theorem kRX13_187 : dnLV RX13 187 2 11 yX13_sizeAnswer cX13_sizeAnswer 4 (some .int) := ⟨(lw_okof 1564 qw_1564 rfl), wi_X13_sizeAnswer, ws_X13_sizeAnswer, wn_KindGridsModel, wc_X13_sizeAnswer, wd_X13_sizeAnswer, by decide, _, rfl, rfl⟩
theorem kRX13_200 : Cond.constantFloat RX13 200 (1090519040 : UInt32) ∈ lw_ok := (lw_okof 1619 qw_1619 rfl)
theorem kRX13_201 : Cond.constantDouble RX13 201 (4620693217682128896 : UInt64) ∈ lw_ok := (lw_okof 1602 qw_1602 rfl)
theorem kRX13_203 : Cond.constantLong RX13 203 (3 : Int64) ∈ lw_ok := (lw_okof 1620 qw_1620 rfl)
theorem wc_X13_takes : Cond.code yX13_takes cX13_takes 2 (some .boolean) ∈ lw_ok := (lw_okof 1589 qw_1589 rfl)
theorem wd_X13_takes : yX13_takes.cls ≠ "java/lang/invoke/MethodHandle" ∧ yX13_takes.cls ≠ "java/lang/invoke/VarHandle" ∧ (parseMethodDescriptor yX13_takes.desc).map (fun d => d.parameters.length) = some 2 := ⟨pn_KindGridsModel.1, pn_KindGridsModel.2, pd_14⟩
theorem wt_X13_takes : Cond.static yX13_takes ∈ lw_ok := (lw_okof 1588 qw_1588 rfl)
theorem kRX13_205 : dnLS RX13 205 2 yX13_takes cX13_takes 2 (some .boolean) := ⟨(lw_okof 1587 qw_1587 rfl), wt_X13_takes, wn_KindGridsModel, wc_X13_takes, wd_X13_takes⟩
theorem wc_X13_isPlain : Cond.code yX13_isPlain cX13_isPlain 1 (some .boolean) ∈ lw_ok := (lw_okof 1586 qw_1586 rfl)
theorem wd_X13_isPlain : yX13_isPlain.cls ≠ "java/lang/invoke/MethodHandle" ∧ yX13_isPlain.cls ≠ "java/lang/invoke/VarHandle" ∧ (parseMethodDescriptor yX13_isPlain.desc).map (fun d => d.parameters.length) = some 1 := ⟨pn_KindGridsModel.1, pn_KindGridsModel.2, pd_13⟩
theorem wt_X13_isPlain : Cond.static yX13_isPlain ∈ lw_ok := (lw_okof 1585 qw_1585 rfl)
theorem kRX13_209 : dnLS RX13 209 1 yX13_isPlain cX13_isPlain 1 (some .boolean) := ⟨(lw_okof 1584 qw_1584 rfl), wt_X13_isPlain, wn_KindGridsModel, wc_X13_isPlain, wd_X13_isPlain⟩
theorem wc_X13_widens : Cond.code yX13_widens cX13_widens 2 none ∈ lw_ok := (lw_okof 1597 qw_1597 rfl)
theorem wd_X13_widens : yX13_widens.cls ≠ "java/lang/invoke/MethodHandle" ∧ yX13_widens.cls ≠ "java/lang/invoke/VarHandle" ∧ (parseMethodDescriptor yX13_widens.desc).map (fun d => d.parameters.length) = some 1 := ⟨pn_KindGridsModel.1, pn_KindGridsModel.2, pd_19⟩
theorem wi_X13_widens : Cond.instanceMethod yX13_widens ∈ lw_ok := (lw_okof 1596 qw_1596 rfl)
theorem ws_X13_widens : Cond.selects yX13_widens.cls yX13_widens yX13_widens ∈ lw_ok := (lw_okof 27 qw_27 rfl)
theorem kRX13_212 : dnLV RX13 212 1 11 yX13_widens cX13_widens 2 none := ⟨(lw_okof 1594 qw_1594 rfl), wi_X13_widens, ws_X13_widens, wn_KindGridsModel, wc_X13_widens, wd_X13_widens, by decide, _, rfl, rfl⟩
theorem wc_X13_lays : Cond.code yX13_lays cX13_lays 3 none ∈ lw_ok := (lw_okof 1628 qw_1628 rfl)
theorem wd_X13_lays : yX13_lays.cls ≠ "java/lang/invoke/MethodHandle" ∧ yX13_lays.cls ≠ "java/lang/invoke/VarHandle" ∧ (parseMethodDescriptor yX13_lays.desc).map (fun d => d.parameters.length) = some 2 := ⟨pn_KindGridsModel.1, pn_KindGridsModel.2, pd_23⟩
theorem wi_X13_lays : Cond.instanceMethod yX13_lays ∈ lw_ok := (lw_okof 1627 qw_1627 rfl)
theorem ws_X13_lays : Cond.selects yX13_lays.cls yX13_lays yX13_lays ∈ lw_ok := (lw_okof 33 qw_33 rfl)
theorem kRX13_216 : dnLV RX13 216 2 11 yX13_lays cX13_lays 3 none := ⟨(lw_okof 1625 qw_1625 rfl), wi_X13_lays, ws_X13_lays, wn_KindGridsModel, wc_X13_lays, wd_X13_lays, by decide, _, rfl, rfl⟩
theorem wc_X13_isNumber : Cond.code yX13_isNumber cX13_isNumber 1 (some .boolean) ∈ lw_ok := (lw_okof 1653 qw_1653 rfl)
theorem wd_X13_isNumber : yX13_isNumber.cls ≠ "java/lang/invoke/MethodHandle" ∧ yX13_isNumber.cls ≠ "java/lang/invoke/VarHandle" ∧ (parseMethodDescriptor yX13_isNumber.desc).map (fun d => d.parameters.length) = some 1 := ⟨pn_KindGridsModel.1, pn_KindGridsModel.2, pd_13⟩
theorem wt_X13_isNumber : Cond.static yX13_isNumber ∈ lw_ok := (lw_okof 1652 qw_1652 rfl)
theorem kRX13_219 : dnLS RX13 219 1 yX13_isNumber cX13_isNumber 1 (some .boolean) := ⟨(lw_okof 1651 qw_1651 rfl), wt_X13_isNumber, wn_KindGridsModel, wc_X13_isNumber, wd_X13_isNumber⟩
theorem wc_X13_asDouble : Cond.code yX13_asDouble cX13_asDouble 5 (some .double) ∈ lw_ok := (lw_okof 1656 qw_1656 rfl)
theorem pd_51 : (parseMethodDescriptor "(IJD)D").map (fun d => d.parameters.length) = some 3 := by decide +kernel
theorem wd_X13_asDouble : yX13_asDouble.cls ≠ "java/lang/invoke/MethodHandle" ∧ yX13_asDouble.cls ≠ "java/lang/invoke/VarHandle" ∧ (parseMethodDescriptor yX13_asDouble.desc).map (fun d => d.parameters.length) = some 3 := ⟨pn_KindGridsModel.1, pn_KindGridsModel.2, pd_51⟩
theorem wt_X13_asDouble : Cond.static yX13_asDouble ∈ lw_ok := (lw_okof 1655 qw_1655 rfl)
theorem kRX13_222 : dnLS RX13 222 3 yX13_asDouble cX13_asDouble 5 (some .double) := ⟨(lw_okof 1654 qw_1654 rfl), wt_X13_asDouble, wn_KindGridsModel, wc_X13_asDouble, wd_X13_asDouble⟩
theorem wc_X13_areLike : Cond.code yX13_areLike cX13_areLike 10 (some .boolean) ∈ lw_ok := (lw_okof 1650 qw_1650 rfl)
theorem pd_52 : (parseMethodDescriptor "(IJDIJD)Z").map (fun d => d.parameters.length) = some 6 := by decide +kernel
theorem wd_X13_areLike : yX13_areLike.cls ≠ "java/lang/invoke/MethodHandle" ∧ yX13_areLike.cls ≠ "java/lang/invoke/VarHandle" ∧ (parseMethodDescriptor yX13_areLike.desc).map (fun d => d.parameters.length) = some 6 := ⟨pn_KindGridsModel.1, pn_KindGridsModel.2, pd_52⟩
theorem wt_X13_areLike : Cond.static yX13_areLike ∈ lw_ok := (lw_okof 1649 qw_1649 rfl)
theorem kRX13_226 : dnLS RX13 226 6 yX13_areLike cX13_areLike 10 (some .boolean) := ⟨(lw_okof 1648 qw_1648 rfl), wt_X13_areLike, wn_KindGridsModel, wc_X13_areLike, wd_X13_areLike⟩
theorem wc_X13_cellFault : Cond.code yX13_cellFault cX13_cellFault 5 (some .int) ∈ lw_ok := (lw_okof 1579 qw_1579 rfl)
theorem wd_X13_cellFault : yX13_cellFault.cls ≠ "java/lang/invoke/MethodHandle" ∧ yX13_cellFault.cls ≠ "java/lang/invoke/VarHandle" ∧ (parseMethodDescriptor yX13_cellFault.desc).map (fun d => d.parameters.length) = some 3 := ⟨pn_KindGridsModel.1, pn_KindGridsModel.2, pd_6⟩
theorem wi_X13_cellFault : Cond.instanceMethod yX13_cellFault ∈ lw_ok := (lw_okof 1578 qw_1578 rfl)
theorem ws_X13_cellFault : Cond.selects yX13_cellFault.cls yX13_cellFault yX13_cellFault ∈ lw_ok := (lw_okof 24 qw_24 rfl)
theorem kRX13_230 : dnLV RX13 230 3 11 yX13_cellFault cX13_cellFault 5 (some .int) := ⟨(lw_okof 1576 qw_1576 rfl), wi_X13_cellFault, ws_X13_cellFault, wn_KindGridsModel, wc_X13_cellFault, wd_X13_cellFault, by decide, _, rfl, rfl⟩
theorem wc_X13_isReadable : Cond.code yX13_isReadable cX13_isReadable 3 (some .boolean) ∈ lw_ok := (lw_okof 1583 qw_1583 rfl)
theorem wd_X13_isReadable : yX13_isReadable.cls ≠ "java/lang/invoke/MethodHandle" ∧ yX13_isReadable.cls ≠ "java/lang/invoke/VarHandle" ∧ (parseMethodDescriptor yX13_isReadable.desc).map (fun d => d.parameters.length) = some 2 := ⟨pn_KindGridsModel.1, pn_KindGridsModel.2, pd_14⟩
theorem wi_X13_isReadable : Cond.instanceMethod yX13_isReadable ∈ lw_ok := (lw_okof 1582 qw_1582 rfl)
theorem ws_X13_isReadable : Cond.selects yX13_isReadable.cls yX13_isReadable yX13_isReadable ∈ lw_ok := (lw_okof 25 qw_25 rfl)
theorem kRX13_233 : dnLV RX13 233 2 11 yX13_isReadable cX13_isReadable 3 (some .boolean) := ⟨(lw_okof 1580 qw_1580 rfl), wi_X13_isReadable, ws_X13_isReadable, wn_KindGridsModel, wc_X13_isReadable, wd_X13_isReadable, by decide, _, rfl, rfl⟩
theorem wc_X13_loads : Cond.code yX13_loads cX13_loads 3 none ∈ lw_ok := (lw_okof 1593 qw_1593 rfl)
theorem wd_X13_loads : yX13_loads.cls ≠ "java/lang/invoke/MethodHandle" ∧ yX13_loads.cls ≠ "java/lang/invoke/VarHandle" ∧ (parseMethodDescriptor yX13_loads.desc).map (fun d => d.parameters.length) = some 2 := ⟨pn_KindGridsModel.1, pn_KindGridsModel.2, pd_23⟩
theorem wi_X13_loads : Cond.instanceMethod yX13_loads ∈ lw_ok := (lw_okof 1592 qw_1592 rfl)
theorem ws_X13_loads : Cond.selects yX13_loads.cls yX13_loads yX13_loads ∈ lw_ok := (lw_okof 26 qw_26 rfl)
theorem kRX13_236 : dnLV RX13 236 2 11 yX13_loads cX13_loads 3 none := ⟨(lw_okof 1590 qw_1590 rfl), wi_X13_loads, ws_X13_loads, wn_KindGridsModel, wc_X13_loads, wd_X13_loads, by decide, _, rfl, rfl⟩
theorem wc_X13_toldOf : Cond.code yX13_toldOf cX13_toldOf 1 (some .long) ∈ lw_ok := (lw_okof 1601 qw_1601 rfl)
theorem wd_X13_toldOf : yX13_toldOf.cls ≠ "java/lang/invoke/MethodHandle" ∧ yX13_toldOf.cls ≠ "java/lang/invoke/VarHandle" ∧ (parseMethodDescriptor yX13_toldOf.desc).map (fun d => d.parameters.length) = some 0 := ⟨pn_KindGridsModel.1, pn_KindGridsModel.2, pd_15⟩
theorem wi_X13_toldOf : Cond.instanceMethod yX13_toldOf ∈ lw_ok := (lw_okof 1600 qw_1600 rfl)
theorem ws_X13_toldOf : Cond.selects yX13_toldOf.cls yX13_toldOf yX13_toldOf ∈ lw_ok := (lw_okof 28 qw_28 rfl)
theorem kRX13_239 : dnLV RX13 239 0 11 yX13_toldOf cX13_toldOf 1 (some .long) := ⟨(lw_okof 1598 qw_1598 rfl), wi_X13_toldOf, ws_X13_toldOf, wn_KindGridsModel, wc_X13_toldOf, wd_X13_toldOf, by decide, _, rfl, rfl⟩
theorem wc_X13_tells : Cond.code yX13_tells cX13_tells 4 (some .int) ∈ lw_ok := (lw_okof 1606 qw_1606 rfl)
theorem pd_53 : (parseMethodDescriptor "(JI)I").map (fun d => d.parameters.length) = some 2 := by decide +kernel
theorem wd_X13_tells : yX13_tells.cls ≠ "java/lang/invoke/MethodHandle" ∧ yX13_tells.cls ≠ "java/lang/invoke/VarHandle" ∧ (parseMethodDescriptor yX13_tells.desc).map (fun d => d.parameters.length) = some 2 := ⟨pn_KindGridsModel.1, pn_KindGridsModel.2, pd_53⟩
theorem wi_X13_tells : Cond.instanceMethod yX13_tells ∈ lw_ok := (lw_okof 1605 qw_1605 rfl)
theorem ws_X13_tells : Cond.selects yX13_tells.cls yX13_tells yX13_tells ∈ lw_ok := (lw_okof 29 qw_29 rfl)
theorem kRX13_243 : dnLV RX13 243 2 11 yX13_tells cX13_tells 4 (some .int) := ⟨(lw_okof 1603 qw_1603 rfl), wi_X13_tells, ws_X13_tells, wn_KindGridsModel, wc_X13_tells, wd_X13_tells, by decide, _, rfl, rfl⟩
theorem wc_X13_readAnswer : Cond.code yX13_readAnswer cX13_readAnswer 7 (some .int) ∈ lw_ok := (lw_okof 1575 qw_1575 rfl)
theorem wd_X13_readAnswer : yX13_readAnswer.cls ≠ "java/lang/invoke/MethodHandle" ∧ yX13_readAnswer.cls ≠ "java/lang/invoke/VarHandle" ∧ (parseMethodDescriptor yX13_readAnswer.desc).map (fun d => d.parameters.length) = some 4 := ⟨pn_KindGridsModel.1, pn_KindGridsModel.2, pd_5⟩
theorem wi_X13_readAnswer : Cond.instanceMethod yX13_readAnswer ∈ lw_ok := (lw_okof 1574 qw_1574 rfl)
theorem ws_X13_readAnswer : Cond.selects yX13_readAnswer.cls yX13_readAnswer yX13_readAnswer ∈ lw_ok := (lw_okof 23 qw_23 rfl)
theorem kRX13_247 : dnLV RX13 247 4 11 yX13_readAnswer cX13_readAnswer 7 (some .int) := ⟨(lw_okof 1572 qw_1572 rfl), wi_X13_readAnswer, ws_X13_readAnswer, wn_KindGridsModel, wc_X13_readAnswer, wd_X13_readAnswer, by decide, _, rfl, rfl⟩
theorem wc_X13_makes : Cond.code yX13_makes cX13_makes 4 none ∈ lw_ok := (lw_okof 1618 qw_1618 rfl)
theorem wd_X13_makes : yX13_makes.cls ≠ "java/lang/invoke/MethodHandle" ∧ yX13_makes.cls ≠ "java/lang/invoke/VarHandle" ∧ (parseMethodDescriptor yX13_makes.desc).map (fun d => d.parameters.length) = some 2 := ⟨pn_KindGridsModel.1, pn_KindGridsModel.2, pd_26⟩
theorem wi_X13_makes : Cond.instanceMethod yX13_makes ∈ lw_ok := (lw_okof 1617 qw_1617 rfl)
theorem ws_X13_makes : Cond.selects yX13_makes.cls yX13_makes yX13_makes ∈ lw_ok := (lw_okof 31 qw_31 rfl)
theorem kRX13_250 : dnLV RX13 250 2 11 yX13_makes cX13_makes 4 none := ⟨(lw_okof 1615 qw_1615 rfl), wi_X13_makes, ws_X13_makes, wn_KindGridsModel, wc_X13_makes, wd_X13_makes, by decide, _, rfl, rfl⟩
theorem wc_X13_puts : Cond.code yX13_puts cX13_puts 3 (some .boolean) ∈ lw_ok := (lw_okof 1624 qw_1624 rfl)
theorem wd_X13_puts : yX13_puts.cls ≠ "java/lang/invoke/MethodHandle" ∧ yX13_puts.cls ≠ "java/lang/invoke/VarHandle" ∧ (parseMethodDescriptor yX13_puts.desc).map (fun d => d.parameters.length) = some 2 := ⟨pn_KindGridsModel.1, pn_KindGridsModel.2, pd_14⟩
theorem wi_X13_puts : Cond.instanceMethod yX13_puts ∈ lw_ok := (lw_okof 1623 qw_1623 rfl)
theorem ws_X13_puts : Cond.selects yX13_puts.cls yX13_puts yX13_puts ∈ lw_ok := (lw_okof 32 qw_32 rfl)
theorem kRX13_254 : dnLV RX13 254 2 11 yX13_puts cX13_puts 3 (some .boolean) := ⟨(lw_okof 1621 qw_1621 rfl), wi_X13_puts, ws_X13_puts, wn_KindGridsModel, wc_X13_puts, wd_X13_puts, by decide, _, rfl, rfl⟩
theorem wc_X13_writeDeed : Cond.code yX13_writeDeed cX13_writeDeed 9 (some .int) ∈ lw_ok := (lw_okof 1614 qw_1614 rfl)
theorem wd_X13_writeDeed : yX13_writeDeed.cls ≠ "java/lang/invoke/MethodHandle" ∧ yX13_writeDeed.cls ≠ "java/lang/invoke/VarHandle" ∧ (parseMethodDescriptor yX13_writeDeed.desc).map (fun d => d.parameters.length) = some 5 := ⟨pn_KindGridsModel.1, pn_KindGridsModel.2, pd_7⟩
theorem wi_X13_writeDeed : Cond.instanceMethod yX13_writeDeed ∈ lw_ok := (lw_okof 1613 qw_1613 rfl)
theorem ws_X13_writeDeed : Cond.selects yX13_writeDeed.cls yX13_writeDeed yX13_writeDeed ∈ lw_ok := (lw_okof 30 qw_30 rfl)
theorem kRX13_257 : dnLV RX13 257 5 11 yX13_writeDeed cX13_writeDeed 9 (some .int) := ⟨(lw_okof 1611 qw_1611 rfl), wi_X13_writeDeed, ws_X13_writeDeed, wn_KindGridsModel, wc_X13_writeDeed, wd_X13_writeDeed, by decide, _, rfl, rfl⟩
theorem wc_X13_isSort : Cond.code yX13_isSort cX13_isSort 1 (some .boolean) ∈ lw_ok := (lw_okof 1639 qw_1639 rfl)
theorem wd_X13_isSort : yX13_isSort.cls ≠ "java/lang/invoke/MethodHandle" ∧ yX13_isSort.cls ≠ "java/lang/invoke/VarHandle" ∧ (parseMethodDescriptor yX13_isSort.desc).map (fun d => d.parameters.length) = some 1 := ⟨pn_KindGridsModel.1, pn_KindGridsModel.2, pd_13⟩
theorem wt_X13_isSort : Cond.static yX13_isSort ∈ lw_ok := (lw_okof 1638 qw_1638 rfl)
theorem kRX13_261 : dnLS RX13 261 1 yX13_isSort cX13_isSort 1 (some .boolean) := ⟨(lw_okof 1637 qw_1637 rfl), wt_X13_isSort, wn_KindGridsModel, wc_X13_isSort, wd_X13_isSort⟩
theorem wc_X13_putDeed : Cond.code yX13_putDeed cX13_putDeed 8 (some .int) ∈ lw_ok := (lw_okof 1636 qw_1636 rfl)
theorem wd_X13_putDeed : yX13_putDeed.cls ≠ "java/lang/invoke/MethodHandle" ∧ yX13_putDeed.cls ≠ "java/lang/invoke/VarHandle" ∧ (parseMethodDescriptor yX13_putDeed.desc).map (fun d => d.parameters.length) = some 5 := ⟨pn_KindGridsModel.1, pn_KindGridsModel.2, pd_7⟩
theorem wi_X13_putDeed : Cond.instanceMethod yX13_putDeed ∈ lw_ok := (lw_okof 1635 qw_1635 rfl)
theorem ws_X13_putDeed : Cond.selects yX13_putDeed.cls yX13_putDeed yX13_putDeed ∈ lw_ok := (lw_okof 34 qw_34 rfl)
theorem kRX13_264 : dnLV RX13 264 5 11 yX13_putDeed cX13_putDeed 8 (some .int) := ⟨(lw_okof 1633 qw_1633 rfl), wi_X13_putDeed, ws_X13_putDeed, wn_KindGridsModel, wc_X13_putDeed, wd_X13_putDeed, by decide, _, rfl, rfl⟩
theorem wc_X13_findAnswer : Cond.code yX13_findAnswer cX13_findAnswer 10 (some .int) ∈ lw_ok := (lw_okof 1647 qw_1647 rfl)
theorem wd_X13_findAnswer : yX13_findAnswer.cls ≠ "java/lang/invoke/MethodHandle" ∧ yX13_findAnswer.cls ≠ "java/lang/invoke/VarHandle" ∧ (parseMethodDescriptor yX13_findAnswer.desc).map (fun d => d.parameters.length) = some 4 := ⟨pn_KindGridsModel.1, pn_KindGridsModel.2, pd_8⟩
theorem wi_X13_findAnswer : Cond.instanceMethod yX13_findAnswer ∈ lw_ok := (lw_okof 1646 qw_1646 rfl)
theorem ws_X13_findAnswer : Cond.selects yX13_findAnswer.cls yX13_findAnswer yX13_findAnswer ∈ lw_ok := (lw_okof 35 qw_35 rfl)
theorem kRX13_267 : dnLV RX13 267 4 11 yX13_findAnswer cX13_findAnswer 10 (some .int) := ⟨(lw_okof 1644 qw_1644 rfl), wi_X13_findAnswer, ws_X13_findAnswer, wn_KindGridsModel, wc_X13_findAnswer, wd_X13_findAnswer, by decide, _, rfl, rfl⟩
theorem wc_X13_both : Cond.code yX13_both cX13_both 3 (some .int) ∈ lw_ok := (lw_okof 1668 qw_1668 rfl)
theorem wd_X13_both : yX13_both.cls ≠ "java/lang/invoke/MethodHandle" ∧ yX13_both.cls ≠ "java/lang/invoke/VarHandle" ∧ (parseMethodDescriptor yX13_both.desc).map (fun d => d.parameters.length) = some 2 := ⟨pn_KindGridsModel.1, pn_KindGridsModel.2, pd_3⟩
theorem wi_X13_both : Cond.instanceMethod yX13_both ∈ lw_ok := (lw_okof 1667 qw_1667 rfl)
theorem ws_X13_both : Cond.selects yX13_both.cls yX13_both yX13_both ∈ lw_ok := (lw_okof 37 qw_37 rfl)
theorem kRX13_271 : dnLV RX13 271 2 11 yX13_both cX13_both 3 (some .int) := ⟨(lw_okof 1665 qw_1665 rfl), wi_X13_both, ws_X13_both, wn_KindGridsModel, wc_X13_both, wd_X13_both, by decide, _, rfl, rfl⟩
theorem wc_X13_cellsLike : Cond.code yX13_cellsLike cX13_cellsLike 3 (some .boolean) ∈ lw_ok := (lw_okof 1672 qw_1672 rfl)
theorem wd_X13_cellsLike : yX13_cellsLike.cls ≠ "java/lang/invoke/MethodHandle" ∧ yX13_cellsLike.cls ≠ "java/lang/invoke/VarHandle" ∧ (parseMethodDescriptor yX13_cellsLike.desc).map (fun d => d.parameters.length) = some 2 := ⟨pn_KindGridsModel.1, pn_KindGridsModel.2, pd_14⟩
theorem wi_X13_cellsLike : Cond.instanceMethod yX13_cellsLike ∈ lw_ok := (lw_okof 1671 qw_1671 rfl)
theorem ws_X13_cellsLike : Cond.selects yX13_cellsLike.cls yX13_cellsLike yX13_cellsLike ∈ lw_ok := (lw_okof 38 qw_38 rfl)
theorem kRX13_274 : dnLV RX13 274 2 11 yX13_cellsLike cX13_cellsLike 3 (some .boolean) := ⟨(lw_okof 1669 qw_1669 rfl), wi_X13_cellsLike, ws_X13_cellsLike, wn_KindGridsModel, wc_X13_cellsLike, wd_X13_cellsLike, by decide, _, rfl, rfl⟩
theorem wc_X13_alikeAnswer : Cond.code yX13_alikeAnswer cX13_alikeAnswer 10 (some .int) ∈ lw_ok := (lw_okof 1664 qw_1664 rfl)
theorem wd_X13_alikeAnswer : yX13_alikeAnswer.cls ≠ "java/lang/invoke/MethodHandle" ∧ yX13_alikeAnswer.cls ≠ "java/lang/invoke/VarHandle" ∧ (parseMethodDescriptor yX13_alikeAnswer.desc).map (fun d => d.parameters.length) = some 4 := ⟨pn_KindGridsModel.1, pn_KindGridsModel.2, pd_5⟩
theorem wi_X13_alikeAnswer : Cond.instanceMethod yX13_alikeAnswer ∈ lw_ok := (lw_okof 1663 qw_1663 rfl)
theorem ws_X13_alikeAnswer : Cond.selects yX13_alikeAnswer.cls yX13_alikeAnswer yX13_alikeAnswer ∈ lw_ok := (lw_okof 36 qw_36 rfl)
theorem kRX13_277 : dnLV RX13 277 4 11 yX13_alikeAnswer cX13_alikeAnswer 10 (some .int) := ⟨(lw_okof 1661 qw_1661 rfl), wi_X13_alikeAnswer, ws_X13_alikeAnswer, wn_KindGridsModel, wc_X13_alikeAnswer, wd_X13_alikeAnswer, by decide, _, rfl, rfl⟩
theorem wc_X13_copies : Cond.code yX13_copies cX13_copies 5 none ∈ lw_ok := (lw_okof 1684 qw_1684 rfl)
theorem wd_X13_copies : yX13_copies.cls ≠ "java/lang/invoke/MethodHandle" ∧ yX13_copies.cls ≠ "java/lang/invoke/VarHandle" ∧ (parseMethodDescriptor yX13_copies.desc).map (fun d => d.parameters.length) = some 4 := ⟨pn_KindGridsModel.1, pn_KindGridsModel.2, pd_24⟩
theorem wi_X13_copies : Cond.instanceMethod yX13_copies ∈ lw_ok := (lw_okof 1683 qw_1683 rfl)
theorem ws_X13_copies : Cond.selects yX13_copies.cls yX13_copies yX13_copies ∈ lw_ok := (lw_okof 40 qw_40 rfl)
theorem kRX13_280 : dnLV RX13 280 4 11 yX13_copies cX13_copies 5 none := ⟨(lw_okof 1681 qw_1681 rfl), wi_X13_copies, ws_X13_copies, wn_KindGridsModel, wc_X13_copies, wd_X13_copies, by decide, _, rfl, rfl⟩
theorem wc_X13_cutDeed : Cond.code yX13_cutDeed cX13_cutDeed 10 (some .int) ∈ lw_ok := (lw_okof 1680 qw_1680 rfl)
theorem wd_X13_cutDeed : yX13_cutDeed.cls ≠ "java/lang/invoke/MethodHandle" ∧ yX13_cutDeed.cls ≠ "java/lang/invoke/VarHandle" ∧ (parseMethodDescriptor yX13_cutDeed.desc).map (fun d => d.parameters.length) = some 5 := ⟨pn_KindGridsModel.1, pn_KindGridsModel.2, pd_9⟩
theorem wi_X13_cutDeed : Cond.instanceMethod yX13_cutDeed ∈ lw_ok := (lw_okof 1679 qw_1679 rfl)
theorem ws_X13_cutDeed : Cond.selects yX13_cutDeed.cls yX13_cutDeed yX13_cutDeed ∈ lw_ok := (lw_okof 39 qw_39 rfl)
theorem kRX13_284 : dnLV RX13 284 5 11 yX13_cutDeed cX13_cutDeed 10 (some .int) := ⟨(lw_okof 1677 qw_1677 rfl), wi_X13_cutDeed, ws_X13_cutDeed, wn_KindGridsModel, wc_X13_cutDeed, wd_X13_cutDeed, by decide, _, rfl, rfl⟩
theorem wc_X13_castDeed : Cond.code yX13_castDeed cX13_castDeed 8 (some .int) ∈ lw_ok := (lw_okof 1692 qw_1692 rfl)
theorem wd_X13_castDeed : yX13_castDeed.cls ≠ "java/lang/invoke/MethodHandle" ∧ yX13_castDeed.cls ≠ "java/lang/invoke/VarHandle" ∧ (parseMethodDescriptor yX13_castDeed.desc).map (fun d => d.parameters.length) = some 3 := ⟨pn_KindGridsModel.1, pn_KindGridsModel.2, pd_6⟩
theorem wi_X13_castDeed : Cond.instanceMethod yX13_castDeed ∈ lw_ok := (lw_okof 1691 qw_1691 rfl)
theorem ws_X13_castDeed : Cond.selects yX13_castDeed.cls yX13_castDeed yX13_castDeed ∈ lw_ok := (lw_okof 41 qw_41 rfl)
theorem kRX13_288 : dnLV RX13 288 3 11 yX13_castDeed cX13_castDeed 8 (some .int) := ⟨(lw_okof 1689 qw_1689 rfl), wi_X13_castDeed, ws_X13_castDeed, wn_KindGridsModel, wc_X13_castDeed, wd_X13_castDeed, by decide, _, rfl, rfl⟩
theorem wc_X13_pourDeed : Cond.code yX13_pourDeed cX13_pourDeed 10 (some .int) ∈ lw_ok := (lw_okof 1700 qw_1700 rfl)
theorem wd_X13_pourDeed : yX13_pourDeed.cls ≠ "java/lang/invoke/MethodHandle" ∧ yX13_pourDeed.cls ≠ "java/lang/invoke/VarHandle" ∧ (parseMethodDescriptor yX13_pourDeed.desc).map (fun d => d.parameters.length) = some 4 := ⟨pn_KindGridsModel.1, pn_KindGridsModel.2, pd_5⟩
theorem wi_X13_pourDeed : Cond.instanceMethod yX13_pourDeed ∈ lw_ok := (lw_okof 1699 qw_1699 rfl)
theorem ws_X13_pourDeed : Cond.selects yX13_pourDeed.cls yX13_pourDeed yX13_pourDeed ∈ lw_ok := (lw_okof 42 qw_42 rfl)
theorem kRX13_291 : dnLV RX13 291 4 11 yX13_pourDeed cX13_pourDeed 10 (some .int) := ⟨(lw_okof 1697 qw_1697 rfl), wi_X13_pourDeed, ws_X13_pourDeed, wn_KindGridsModel, wc_X13_pourDeed, wd_X13_pourDeed, by decide, _, rfl, rfl⟩
theorem wc_X13_leastKind : Cond.code yX13_leastKind cX13_leastKind 4 (some .int) ∈ lw_ok := (lw_okof 1711 qw_1711 rfl)
theorem wd_X13_leastKind : yX13_leastKind.cls ≠ "java/lang/invoke/MethodHandle" ∧ yX13_leastKind.cls ≠ "java/lang/invoke/VarHandle" ∧ (parseMethodDescriptor yX13_leastKind.desc).map (fun d => d.parameters.length) = some 1 := ⟨pn_KindGridsModel.1, pn_KindGridsModel.2, pd_4⟩
theorem wt_X13_leastKind : Cond.static yX13_leastKind ∈ lw_ok := (lw_okof 1710 qw_1710 rfl)
theorem kRX13_294 : dnLS RX13 294 1 yX13_leastKind cX13_leastKind 4 (some .int) := ⟨(lw_okof 1709 qw_1709 rfl), wt_X13_leastKind, wn_KindGridsModel, wc_X13_leastKind, wd_X13_leastKind⟩
theorem wc_X13_joinDeed : Cond.code yX13_joinDeed cX13_joinDeed 10 (some .int) ∈ lw_ok := (lw_okof 1708 qw_1708 rfl)
theorem wd_X13_joinDeed : yX13_joinDeed.cls ≠ "java/lang/invoke/MethodHandle" ∧ yX13_joinDeed.cls ≠ "java/lang/invoke/VarHandle" ∧ (parseMethodDescriptor yX13_joinDeed.desc).map (fun d => d.parameters.length) = some 3 := ⟨pn_KindGridsModel.1, pn_KindGridsModel.2, pd_6⟩
theorem wi_X13_joinDeed : Cond.instanceMethod yX13_joinDeed ∈ lw_ok := (lw_okof 1707 qw_1707 rfl)
theorem ws_X13_joinDeed : Cond.selects yX13_joinDeed.cls yX13_joinDeed yX13_joinDeed ∈ lw_ok := (lw_okof 43 qw_43 rfl)
theorem kRX13_297 : dnLV RX13 297 3 11 yX13_joinDeed cX13_joinDeed 10 (some .int) := ⟨(lw_okof 1705 qw_1705 rfl), wi_X13_joinDeed, ws_X13_joinDeed, wn_KindGridsModel, wc_X13_joinDeed, wd_X13_joinDeed, by decide, _, rfl, rfl⟩
theorem wc_X13_laysBy : Cond.code yX13_laysBy cX13_laysBy 3 none ∈ lw_ok := (lw_okof 1723 qw_1723 rfl)
theorem wd_X13_laysBy : yX13_laysBy.cls ≠ "java/lang/invoke/MethodHandle" ∧ yX13_laysBy.cls ≠ "java/lang/invoke/VarHandle" ∧ (parseMethodDescriptor yX13_laysBy.desc).map (fun d => d.parameters.length) = some 1 := ⟨pn_KindGridsModel.1, pn_KindGridsModel.2, pd_19⟩
theorem wi_X13_laysBy : Cond.instanceMethod yX13_laysBy ∈ lw_ok := (lw_okof 1722 qw_1722 rfl)
theorem ws_X13_laysBy : Cond.selects yX13_laysBy.cls yX13_laysBy yX13_laysBy ∈ lw_ok := (lw_okof 45 qw_45 rfl)
theorem kRX13_300 : dnLV RX13 300 1 11 yX13_laysBy cX13_laysBy 3 none := ⟨(lw_okof 1720 qw_1720 rfl), wi_X13_laysBy, ws_X13_laysBy, wn_KindGridsModel, wc_X13_laysBy, wd_X13_laysBy, by decide, _, rfl, rfl⟩
theorem wc_X13_fromBy : Cond.code yX13_fromBy cX13_fromBy 4 none ∈ lw_ok := (lw_okof 1727 qw_1727 rfl)
theorem wd_X13_fromBy : yX13_fromBy.cls ≠ "java/lang/invoke/MethodHandle" ∧ yX13_fromBy.cls ≠ "java/lang/invoke/VarHandle" ∧ (parseMethodDescriptor yX13_fromBy.desc).map (fun d => d.parameters.length) = some 3 := ⟨pn_KindGridsModel.1, pn_KindGridsModel.2, pd_22⟩
theorem wi_X13_fromBy : Cond.instanceMethod yX13_fromBy ∈ lw_ok := (lw_okof 1726 qw_1726 rfl)
theorem ws_X13_fromBy : Cond.selects yX13_fromBy.cls yX13_fromBy yX13_fromBy ∈ lw_ok := (lw_okof 46 qw_46 rfl)
theorem kRX13_303 : dnLV RX13 303 3 11 yX13_fromBy cX13_fromBy 4 none := ⟨(lw_okof 1724 qw_1724 rfl), wi_X13_fromBy, ws_X13_fromBy, wn_KindGridsModel, wc_X13_fromBy, wd_X13_fromBy, by decide, _, rfl, rfl⟩
theorem wc_X13_flipDeed : Cond.code yX13_flipDeed cX13_flipDeed 6 (some .int) ∈ lw_ok := (lw_okof 1719 qw_1719 rfl)
theorem wd_X13_flipDeed : yX13_flipDeed.cls ≠ "java/lang/invoke/MethodHandle" ∧ yX13_flipDeed.cls ≠ "java/lang/invoke/VarHandle" ∧ (parseMethodDescriptor yX13_flipDeed.desc).map (fun d => d.parameters.length) = some 2 := ⟨pn_KindGridsModel.1, pn_KindGridsModel.2, pd_3⟩
theorem wi_X13_flipDeed : Cond.instanceMethod yX13_flipDeed ∈ lw_ok := (lw_okof 1718 qw_1718 rfl)
theorem ws_X13_flipDeed : Cond.selects yX13_flipDeed.cls yX13_flipDeed yX13_flipDeed ∈ lw_ok := (lw_okof 44 qw_44 rfl)
theorem kRX13_306 : dnLV RX13 306 2 11 yX13_flipDeed cX13_flipDeed 6 (some .int) := ⟨(lw_okof 1716 qw_1716 rfl), wi_X13_flipDeed, ws_X13_flipDeed, wn_KindGridsModel, wc_X13_flipDeed, wd_X13_flipDeed, by decide, _, rfl, rfl⟩
theorem wc_X13_rollDeed : Cond.code yX13_rollDeed cX13_rollDeed 8 (some .int) ∈ lw_ok := (lw_okof 1735 qw_1735 rfl)
theorem wd_X13_rollDeed : yX13_rollDeed.cls ≠ "java/lang/invoke/MethodHandle" ∧ yX13_rollDeed.cls ≠ "java/lang/invoke/VarHandle" ∧ (parseMethodDescriptor yX13_rollDeed.desc).map (fun d => d.parameters.length) = some 3 := ⟨pn_KindGridsModel.1, pn_KindGridsModel.2, pd_6⟩
theorem wi_X13_rollDeed : Cond.instanceMethod yX13_rollDeed ∈ lw_ok := (lw_okof 1734 qw_1734 rfl)
theorem ws_X13_rollDeed : Cond.selects yX13_rollDeed.cls yX13_rollDeed yX13_rollDeed ∈ lw_ok := (lw_okof 47 qw_47 rfl)
theorem kRX13_309 : dnLV RX13 309 3 11 yX13_rollDeed cX13_rollDeed 8 (some .int) := ⟨(lw_okof 1732 qw_1732 rfl), wi_X13_rollDeed, ws_X13_rollDeed, wn_KindGridsModel, wc_X13_rollDeed, wd_X13_rollDeed, by decide, _, rfl, rfl⟩
theorem wc_X13_isBehind : Cond.code yX13_isBehind cX13_isBehind 3 (some .boolean) ∈ lw_ok := (lw_okof 1747 qw_1747 rfl)
theorem wd_X13_isBehind : yX13_isBehind.cls ≠ "java/lang/invoke/MethodHandle" ∧ yX13_isBehind.cls ≠ "java/lang/invoke/VarHandle" ∧ (parseMethodDescriptor yX13_isBehind.desc).map (fun d => d.parameters.length) = some 2 := ⟨pn_KindGridsModel.1, pn_KindGridsModel.2, pd_14⟩
theorem wi_X13_isBehind : Cond.instanceMethod yX13_isBehind ∈ lw_ok := (lw_okof 1746 qw_1746 rfl)
theorem ws_X13_isBehind : Cond.selects yX13_isBehind.cls yX13_isBehind yX13_isBehind ∈ lw_ok := (lw_okof 49 qw_49 rfl)
theorem kRX13_312 : dnLV RX13 312 2 11 yX13_isBehind cX13_isBehind 3 (some .boolean) := ⟨(lw_okof 1744 qw_1744 rfl), wi_X13_isBehind, ws_X13_isBehind, wn_KindGridsModel, wc_X13_isBehind, wd_X13_isBehind, by decide, _, rfl, rfl⟩
theorem wc_X13_orderDeed : Cond.code yX13_orderDeed cX13_orderDeed 9 (some .int) ∈ lw_ok := (lw_okof 1743 qw_1743 rfl)
theorem wd_X13_orderDeed : yX13_orderDeed.cls ≠ "java/lang/invoke/MethodHandle" ∧ yX13_orderDeed.cls ≠ "java/lang/invoke/VarHandle" ∧ (parseMethodDescriptor yX13_orderDeed.desc).map (fun d => d.parameters.length) = some 2 := ⟨pn_KindGridsModel.1, pn_KindGridsModel.2, pd_3⟩
theorem wi_X13_orderDeed : Cond.instanceMethod yX13_orderDeed ∈ lw_ok := (lw_okof 1742 qw_1742 rfl)
theorem ws_X13_orderDeed : Cond.selects yX13_orderDeed.cls yX13_orderDeed yX13_orderDeed ∈ lw_ok := (lw_okof 48 qw_48 rfl)
theorem kRX13_315 : dnLV RX13 315 2 11 yX13_orderDeed cX13_orderDeed 9 (some .int) := ⟨(lw_okof 1740 qw_1740 rfl), wi_X13_orderDeed, ws_X13_orderDeed, wn_KindGridsModel, wc_X13_orderDeed, wd_X13_orderDeed, by decide, _, rfl, rfl⟩
theorem wc_X13_adds : Cond.code yX13_adds cX13_adds 6 none ∈ lw_ok := (lw_okof 1759 qw_1759 rfl)
theorem pd_54 : (parseMethodDescriptor "(IJD)V").map (fun d => d.parameters.length) = some 3 := by decide +kernel
theorem wd_X13_adds : yX13_adds.cls ≠ "java/lang/invoke/MethodHandle" ∧ yX13_adds.cls ≠ "java/lang/invoke/VarHandle" ∧ (parseMethodDescriptor yX13_adds.desc).map (fun d => d.parameters.length) = some 3 := ⟨pn_KindGridsModel.1, pn_KindGridsModel.2, pd_54⟩
theorem wi_X13_adds : Cond.instanceMethod yX13_adds ∈ lw_ok := (lw_okof 1758 qw_1758 rfl)
theorem ws_X13_adds : Cond.selects yX13_adds.cls yX13_adds yX13_adds ∈ lw_ok := (lw_okof 51 qw_51 rfl)
theorem kRX13_318 : dnLV RX13 318 3 11 yX13_adds cX13_adds 6 none := ⟨(lw_okof 1756 qw_1756 rfl), wi_X13_adds, ws_X13_adds, wn_KindGridsModel, wc_X13_adds, wd_X13_adds, by decide, _, rfl, rfl⟩
theorem wc_X13_addDeed : Cond.code yX13_addDeed cX13_addDeed 8 (some .int) ∈ lw_ok := (lw_okof 1755 qw_1755 rfl)
theorem wd_X13_addDeed : yX13_addDeed.cls ≠ "java/lang/invoke/MethodHandle" ∧ yX13_addDeed.cls ≠ "java/lang/invoke/VarHandle" ∧ (parseMethodDescriptor yX13_addDeed.desc).map (fun d => d.parameters.length) = some 4 := ⟨pn_KindGridsModel.1, pn_KindGridsModel.2, pd_5⟩
theorem wi_X13_addDeed : Cond.instanceMethod yX13_addDeed ∈ lw_ok := (lw_okof 1754 qw_1754 rfl)
theorem ws_X13_addDeed : Cond.selects yX13_addDeed.cls yX13_addDeed yX13_addDeed ∈ lw_ok := (lw_okof 50 qw_50 rfl)
theorem kRX13_322 : dnLV RX13 322 4 11 yX13_addDeed cX13_addDeed 8 (some .int) := ⟨(lw_okof 1752 qw_1752 rfl), wi_X13_addDeed, ws_X13_addDeed, wn_KindGridsModel, wc_X13_addDeed, wd_X13_addDeed, by decide, _, rfl, rfl⟩
theorem wc_X13_isAbove : Cond.code yX13_isAbove cX13_isAbove 10 (some .boolean) ∈ lw_ok := (lw_okof 1771 qw_1771 rfl)
theorem pd_55 : (parseMethodDescriptor "(IIIJ)Z").map (fun d => d.parameters.length) = some 4 := by decide +kernel
theorem wd_X13_isAbove : yX13_isAbove.cls ≠ "java/lang/invoke/MethodHandle" ∧ yX13_isAbove.cls ≠ "java/lang/invoke/VarHandle" ∧ (parseMethodDescriptor yX13_isAbove.desc).map (fun d => d.parameters.length) = some 4 := ⟨pn_KindGridsModel.1, pn_KindGridsModel.2, pd_55⟩
theorem wi_X13_isAbove : Cond.instanceMethod yX13_isAbove ∈ lw_ok := (lw_okof 1770 qw_1770 rfl)
theorem ws_X13_isAbove : Cond.selects yX13_isAbove.cls yX13_isAbove yX13_isAbove ∈ lw_ok := (lw_okof 53 qw_53 rfl)
theorem kRX13_325 : dnLV RX13 325 4 11 yX13_isAbove cX13_isAbove 10 (some .boolean) := ⟨(lw_okof 1768 qw_1768 rfl), wi_X13_isAbove, ws_X13_isAbove, wn_KindGridsModel, wc_X13_isAbove, wd_X13_isAbove, by decide, _, rfl, rfl⟩
theorem wc_X13_aboveDeed : Cond.code yX13_aboveDeed cX13_aboveDeed 13 (some .int) ∈ lw_ok := (lw_okof 1767 qw_1767 rfl)
theorem wd_X13_aboveDeed : yX13_aboveDeed.cls ≠ "java/lang/invoke/MethodHandle" ∧ yX13_aboveDeed.cls ≠ "java/lang/invoke/VarHandle" ∧ (parseMethodDescriptor yX13_aboveDeed.desc).map (fun d => d.parameters.length) = some 5 := ⟨pn_KindGridsModel.1, pn_KindGridsModel.2, pd_10⟩
theorem wi_X13_aboveDeed : Cond.instanceMethod yX13_aboveDeed ∈ lw_ok := (lw_okof 1766 qw_1766 rfl)
theorem ws_X13_aboveDeed : Cond.selects yX13_aboveDeed.cls yX13_aboveDeed yX13_aboveDeed ∈ lw_ok := (lw_okof 52 qw_52 rfl)
theorem kRX13_329 : dnLV RX13 329 5 11 yX13_aboveDeed cX13_aboveDeed 13 (some .int) := ⟨(lw_okof 1764 qw_1764 rfl), wi_X13_aboveDeed, ws_X13_aboveDeed, wn_KindGridsModel, wc_X13_aboveDeed, wd_X13_aboveDeed, by decide, _, rfl, rfl⟩
theorem wc_X13_pickDeed : Cond.code yX13_pickDeed cX13_pickDeed 11 (some .int) ∈ lw_ok := (lw_okof 1779 qw_1779 rfl)
theorem wd_X13_pickDeed : yX13_pickDeed.cls ≠ "java/lang/invoke/MethodHandle" ∧ yX13_pickDeed.cls ≠ "java/lang/invoke/VarHandle" ∧ (parseMethodDescriptor yX13_pickDeed.desc).map (fun d => d.parameters.length) = some 3 := ⟨pn_KindGridsModel.1, pn_KindGridsModel.2, pd_6⟩
theorem wi_X13_pickDeed : Cond.instanceMethod yX13_pickDeed ∈ lw_ok := (lw_okof 1778 qw_1778 rfl)
theorem ws_X13_pickDeed : Cond.selects yX13_pickDeed.cls yX13_pickDeed yX13_pickDeed ∈ lw_ok := (lw_okof 54 qw_54 rfl)
theorem kRX13_333 : dnLV RX13 333 3 11 yX13_pickDeed cX13_pickDeed 11 (some .int) := ⟨(lw_okof 1776 qw_1776 rfl), wi_X13_pickDeed, ws_X13_pickDeed, wn_KindGridsModel, wc_X13_pickDeed, wd_X13_pickDeed, by decide, _, rfl, rfl⟩
theorem wc_X13_isRow : Cond.code yX13_isRow cX13_isRow 3 (some .boolean) ∈ lw_ok := (lw_okof 1791 qw_1791 rfl)
theorem wd_X13_isRow : yX13_isRow.cls ≠ "java/lang/invoke/MethodHandle" ∧ yX13_isRow.cls ≠ "java/lang/invoke/VarHandle" ∧ (parseMethodDescriptor yX13_isRow.desc).map (fun d => d.parameters.length) = some 2 := ⟨pn_KindGridsModel.1, pn_KindGridsModel.2, pd_14⟩
theorem wi_X13_isRow : Cond.instanceMethod yX13_isRow ∈ lw_ok := (lw_okof 1790 qw_1790 rfl)
theorem ws_X13_isRow : Cond.selects yX13_isRow.cls yX13_isRow yX13_isRow ∈ lw_ok := (lw_okof 56 qw_56 rfl)
theorem kRX13_336 : dnLV RX13 336 2 11 yX13_isRow cX13_isRow 3 (some .boolean) := ⟨(lw_okof 1788 qw_1788 rfl), wi_X13_isRow, ws_X13_isRow, wn_KindGridsModel, wc_X13_isRow, wd_X13_isRow, by decide, _, rfl, rfl⟩
theorem wc_X13_flatDeed : Cond.code yX13_flatDeed cX13_flatDeed 11 (some .int) ∈ lw_ok := (lw_okof 1787 qw_1787 rfl)
theorem wd_X13_flatDeed : yX13_flatDeed.cls ≠ "java/lang/invoke/MethodHandle" ∧ yX13_flatDeed.cls ≠ "java/lang/invoke/VarHandle" ∧ (parseMethodDescriptor yX13_flatDeed.desc).map (fun d => d.parameters.length) = some 3 := ⟨pn_KindGridsModel.1, pn_KindGridsModel.2, pd_6⟩
theorem wi_X13_flatDeed : Cond.instanceMethod yX13_flatDeed ∈ lw_ok := (lw_okof 1786 qw_1786 rfl)
theorem ws_X13_flatDeed : Cond.selects yX13_flatDeed.cls yX13_flatDeed yX13_flatDeed ∈ lw_ok := (lw_okof 55 qw_55 rfl)
theorem kRX13_339 : dnLV RX13 339 3 11 yX13_flatDeed cX13_flatDeed 11 (some .int) := ⟨(lw_okof 1784 qw_1784 rfl), wi_X13_flatDeed, ws_X13_flatDeed, wn_KindGridsModel, wc_X13_flatDeed, wd_X13_flatDeed, by decide, _, rfl, rfl⟩
theorem wc_X13_comes : Cond.code yX13_comes cX13_comes 4 (some .int) ∈ lw_ok := (lw_okof 1803 qw_1803 rfl)
theorem wd_X13_comes : yX13_comes.cls ≠ "java/lang/invoke/MethodHandle" ∧ yX13_comes.cls ≠ "java/lang/invoke/VarHandle" ∧ (parseMethodDescriptor yX13_comes.desc).map (fun d => d.parameters.length) = some 2 := ⟨pn_KindGridsModel.1, pn_KindGridsModel.2, pd_3⟩
theorem wi_X13_comes : Cond.instanceMethod yX13_comes ∈ lw_ok := (lw_okof 1802 qw_1802 rfl)
theorem ws_X13_comes : Cond.selects yX13_comes.cls yX13_comes yX13_comes ∈ lw_ok := (lw_okof 58 qw_58 rfl)
theorem kRX13_342 : dnLV RX13 342 2 11 yX13_comes cX13_comes 4 (some .int) := ⟨(lw_okof 1800 qw_1800 rfl), wi_X13_comes, ws_X13_comes, wn_KindGridsModel, wc_X13_comes, wd_X13_comes, by decide, _, rfl, rfl⟩
theorem wc_X13_dealDeed : Cond.code yX13_dealDeed cX13_dealDeed 10 (some .int) ∈ lw_ok := (lw_okof 1799 qw_1799 rfl)
theorem wd_X13_dealDeed : yX13_dealDeed.cls ≠ "java/lang/invoke/MethodHandle" ∧ yX13_dealDeed.cls ≠ "java/lang/invoke/VarHandle" ∧ (parseMethodDescriptor yX13_dealDeed.desc).map (fun d => d.parameters.length) = some 4 := ⟨pn_KindGridsModel.1, pn_KindGridsModel.2, pd_5⟩
theorem wi_X13_dealDeed : Cond.instanceMethod yX13_dealDeed ∈ lw_ok := (lw_okof 1798 qw_1798 rfl)
theorem ws_X13_dealDeed : Cond.selects yX13_dealDeed.cls yX13_dealDeed yX13_dealDeed ∈ lw_ok := (lw_okof 57 qw_57 rfl)
theorem kRX13_345 : dnLV RX13 345 4 11 yX13_dealDeed cX13_dealDeed 10 (some .int) := ⟨(lw_okof 1796 qw_1796 rfl), wi_X13_dealDeed, ws_X13_dealDeed, wn_KindGridsModel, wc_X13_dealDeed, wd_X13_dealDeed, by decide, _, rfl, rfl⟩
theorem wc_X13_hasCell : Cond.code yX13_hasCell cX13_hasCell 4 (some .boolean) ∈ lw_ok := (lw_okof 1823 qw_1823 rfl)
theorem wd_X13_hasCell : yX13_hasCell.cls ≠ "java/lang/invoke/MethodHandle" ∧ yX13_hasCell.cls ≠ "java/lang/invoke/VarHandle" ∧ (parseMethodDescriptor yX13_hasCell.desc).map (fun d => d.parameters.length) = some 3 := ⟨pn_KindGridsModel.1, pn_KindGridsModel.2, pd_50⟩
theorem wi_X13_hasCell : Cond.instanceMethod yX13_hasCell ∈ lw_ok := (lw_okof 1822 qw_1822 rfl)
theorem ws_X13_hasCell : Cond.selects yX13_hasCell.cls yX13_hasCell yX13_hasCell ∈ lw_ok := (lw_okof 62 qw_62 rfl)
theorem kRX13_348 : dnLV RX13 348 3 11 yX13_hasCell cX13_hasCell 4 (some .boolean) := ⟨(lw_okof 1820 qw_1820 rfl), wi_X13_hasCell, ws_X13_hasCell, wn_KindGridsModel, wc_X13_hasCell, wd_X13_hasCell, by decide, _, rfl, rfl⟩
theorem wc_X13_longest : Cond.code yX13_longest cX13_longest 4 (some .int) ∈ lw_ok := (lw_okof 1815 qw_1815 rfl)
theorem wd_X13_longest : yX13_longest.cls ≠ "java/lang/invoke/MethodHandle" ∧ yX13_longest.cls ≠ "java/lang/invoke/VarHandle" ∧ (parseMethodDescriptor yX13_longest.desc).map (fun d => d.parameters.length) = some 1 := ⟨pn_KindGridsModel.1, pn_KindGridsModel.2, pd_4⟩
theorem wi_X13_longest : Cond.instanceMethod yX13_longest ∈ lw_ok := (lw_okof 1814 qw_1814 rfl)
theorem ws_X13_longest : Cond.selects yX13_longest.cls yX13_longest yX13_longest ∈ lw_ok := (lw_okof 60 qw_60 rfl)
theorem kRX13_351 : dnLV RX13 351 1 11 yX13_longest cX13_longest 4 (some .int) := ⟨(lw_okof 1812 qw_1812 rfl), wi_X13_longest, ws_X13_longest, wn_KindGridsModel, wc_X13_longest, wd_X13_longest, by decide, _, rfl, rfl⟩
theorem wc_X13_columnRow : Cond.code yX13_columnRow cX13_columnRow 8 (some .int) ∈ lw_ok := (lw_okof 1819 qw_1819 rfl)
theorem wd_X13_columnRow : yX13_columnRow.cls ≠ "java/lang/invoke/MethodHandle" ∧ yX13_columnRow.cls ≠ "java/lang/invoke/VarHandle" ∧ (parseMethodDescriptor yX13_columnRow.desc).map (fun d => d.parameters.length) = some 2 := ⟨pn_KindGridsModel.1, pn_KindGridsModel.2, pd_3⟩
theorem wi_X13_columnRow : Cond.instanceMethod yX13_columnRow ∈ lw_ok := (lw_okof 1818 qw_1818 rfl)
theorem ws_X13_columnRow : Cond.selects yX13_columnRow.cls yX13_columnRow yX13_columnRow ∈ lw_ok := (lw_okof 61 qw_61 rfl)
theorem kRX13_354 : dnLV RX13 354 2 11 yX13_columnRow cX13_columnRow 8 (some .int) := ⟨(lw_okof 1816 qw_1816 rfl), wi_X13_columnRow, ws_X13_columnRow, wn_KindGridsModel, wc_X13_columnRow, wd_X13_columnRow, by decide, _, rfl, rfl⟩
theorem wc_X13_turnDeed : Cond.code yX13_turnDeed cX13_turnDeed 5 (some .int) ∈ lw_ok := (lw_okof 1811 qw_1811 rfl)
theorem wd_X13_turnDeed : yX13_turnDeed.cls ≠ "java/lang/invoke/MethodHandle" ∧ yX13_turnDeed.cls ≠ "java/lang/invoke/VarHandle" ∧ (parseMethodDescriptor yX13_turnDeed.desc).map (fun d => d.parameters.length) = some 2 := ⟨pn_KindGridsModel.1, pn_KindGridsModel.2, pd_3⟩
theorem wi_X13_turnDeed : Cond.instanceMethod yX13_turnDeed ∈ lw_ok := (lw_okof 1810 qw_1810 rfl)
theorem ws_X13_turnDeed : Cond.selects yX13_turnDeed.cls yX13_turnDeed yX13_turnDeed ∈ lw_ok := (lw_okof 59 qw_59 rfl)
theorem kRX13_357 : dnLV RX13 357 2 11 yX13_turnDeed cX13_turnDeed 5 (some .int) := ⟨(lw_okof 1808 qw_1808 rfl), wi_X13_turnDeed, ws_X13_turnDeed, wn_KindGridsModel, wc_X13_turnDeed, wd_X13_turnDeed, by decide, _, rfl, rfl⟩
theorem wc_X13_firstUnlike : Cond.code yX13_firstUnlike cX13_firstUnlike 4 (some .int) ∈ lw_ok := (lw_okof 1835 qw_1835 rfl)
theorem wd_X13_firstUnlike : yX13_firstUnlike.cls ≠ "java/lang/invoke/MethodHandle" ∧ yX13_firstUnlike.cls ≠ "java/lang/invoke/VarHandle" ∧ (parseMethodDescriptor yX13_firstUnlike.desc).map (fun d => d.parameters.length) = some 2 := ⟨pn_KindGridsModel.1, pn_KindGridsModel.2, pd_3⟩
theorem wi_X13_firstUnlike : Cond.instanceMethod yX13_firstUnlike ∈ lw_ok := (lw_okof 1834 qw_1834 rfl)
theorem ws_X13_firstUnlike : Cond.selects yX13_firstUnlike.cls yX13_firstUnlike yX13_firstUnlike ∈ lw_ok := (lw_okof 64 qw_64 rfl)
theorem kRX13_360 : dnLV RX13 360 2 11 yX13_firstUnlike cX13_firstUnlike 4 (some .int) := ⟨(lw_okof 1832 qw_1832 rfl), wi_X13_firstUnlike, ws_X13_firstUnlike, wn_KindGridsModel, wc_X13_firstUnlike, wd_X13_firstUnlike, by decide, _, rfl, rfl⟩
theorem wc_X13_product : Cond.code yX13_product cX13_product 9 (some .long) ∈ lw_ok := (lw_okof 1839 qw_1839 rfl)
theorem pd_56 : (parseMethodDescriptor "(IIII)J").map (fun d => d.parameters.length) = some 4 := by decide +kernel
theorem wd_X13_product : yX13_product.cls ≠ "java/lang/invoke/MethodHandle" ∧ yX13_product.cls ≠ "java/lang/invoke/VarHandle" ∧ (parseMethodDescriptor yX13_product.desc).map (fun d => d.parameters.length) = some 4 := ⟨pn_KindGridsModel.1, pn_KindGridsModel.2, pd_56⟩
theorem wi_X13_product : Cond.instanceMethod yX13_product ∈ lw_ok := (lw_okof 1838 qw_1838 rfl)
theorem ws_X13_product : Cond.selects yX13_product.cls yX13_product yX13_product ∈ lw_ok := (lw_okof 65 qw_65 rfl)
theorem kRX13_363 : dnLV RX13 363 4 11 yX13_product cX13_product 9 (some .long) := ⟨(lw_okof 1836 qw_1836 rfl), wi_X13_product, ws_X13_product, wn_KindGridsModel, wc_X13_product, wd_X13_product, by decide, _, rfl, rfl⟩
theorem wc_X13_timesDeed : Cond.code yX13_timesDeed cX13_timesDeed 10 (some .int) ∈ lw_ok := (lw_okof 1831 qw_1831 rfl)
theorem wd_X13_timesDeed : yX13_timesDeed.cls ≠ "java/lang/invoke/MethodHandle" ∧ yX13_timesDeed.cls ≠ "java/lang/invoke/VarHandle" ∧ (parseMethodDescriptor yX13_timesDeed.desc).map (fun d => d.parameters.length) = some 3 := ⟨pn_KindGridsModel.1, pn_KindGridsModel.2, pd_6⟩
theorem wi_X13_timesDeed : Cond.instanceMethod yX13_timesDeed ∈ lw_ok := (lw_okof 1830 qw_1830 rfl)
theorem ws_X13_timesDeed : Cond.selects yX13_timesDeed.cls yX13_timesDeed yX13_timesDeed ∈ lw_ok := (lw_okof 63 qw_63 rfl)
theorem kRX13_367 : dnLV RX13 367 3 11 yX13_timesDeed cX13_timesDeed 10 (some .int) := ⟨(lw_okof 1828 qw_1828 rfl), wi_X13_timesDeed, ws_X13_timesDeed, wn_KindGridsModel, wc_X13_timesDeed, wd_X13_timesDeed, by decide, _, rfl, rfl⟩
theorem wc_X13_isAs : Cond.code yX13_isAs cX13_isAs 1 (some .boolean) ∈ lw_ok := (lw_okof 1850 qw_1850 rfl)
theorem wd_X13_isAs : yX13_isAs.cls ≠ "java/lang/invoke/MethodHandle" ∧ yX13_isAs.cls ≠ "java/lang/invoke/VarHandle" ∧ (parseMethodDescriptor yX13_isAs.desc).map (fun d => d.parameters.length) = some 1 := ⟨pn_KindGridsModel.1, pn_KindGridsModel.2, pd_13⟩
theorem wt_X13_isAs : Cond.static yX13_isAs ∈ lw_ok := (lw_okof 1849 qw_1849 rfl)
theorem kRX13_379 : dnLS RX13 379 1 yX13_isAs cX13_isAs 1 (some .boolean) := ⟨(lw_okof 1848 qw_1848 rfl), wt_X13_isAs, wn_KindGridsModel, wc_X13_isAs, wd_X13_isAs⟩
theorem wc_X13_isOfWay : Cond.code yX13_isOfWay cX13_isOfWay 4 (some .boolean) ∈ lw_ok := (lw_okof 1853 qw_1853 rfl)
theorem wd_X13_isOfWay : yX13_isOfWay.cls ≠ "java/lang/invoke/MethodHandle" ∧ yX13_isOfWay.cls ≠ "java/lang/invoke/VarHandle" ∧ (parseMethodDescriptor yX13_isOfWay.desc).map (fun d => d.parameters.length) = some 4 := ⟨pn_KindGridsModel.1, pn_KindGridsModel.2, pd_41⟩
theorem wt_X13_isOfWay : Cond.static yX13_isOfWay ∈ lw_ok := (lw_okof 1852 qw_1852 rfl)
theorem kRX13_382 : dnLS RX13 382 4 yX13_isOfWay cX13_isOfWay 4 (some .boolean) := ⟨(lw_okof 1851 qw_1851 rfl), wt_X13_isOfWay, wn_KindGridsModel, wc_X13_isOfWay, wd_X13_isOfWay⟩
theorem wc_X13_foldsCell : Cond.code yX13_foldsCell cX13_foldsCell 5 (some .boolean) ∈ lw_ok := (lw_okof 1857 qw_1857 rfl)
theorem wd_X13_foldsCell : yX13_foldsCell.cls ≠ "java/lang/invoke/MethodHandle" ∧ yX13_foldsCell.cls ≠ "java/lang/invoke/VarHandle" ∧ (parseMethodDescriptor yX13_foldsCell.desc).map (fun d => d.parameters.length) = some 4 := ⟨pn_KindGridsModel.1, pn_KindGridsModel.2, pd_41⟩
theorem wi_X13_foldsCell : Cond.instanceMethod yX13_foldsCell ∈ lw_ok := (lw_okof 1856 qw_1856 rfl)
theorem ws_X13_foldsCell : Cond.selects yX13_foldsCell.cls yX13_foldsCell yX13_foldsCell ∈ lw_ok := (lw_okof 67 qw_67 rfl)
theorem kRX13_386 : dnLV RX13 386 4 11 yX13_foldsCell cX13_foldsCell 5 (some .boolean) := ⟨(lw_okof 1854 qw_1854 rfl), wi_X13_foldsCell, ws_X13_foldsCell, wn_KindGridsModel, wc_X13_foldsCell, wd_X13_foldsCell, by decide, _, rfl, rfl⟩
theorem wc_X13_foldsReal : Cond.code yX13_foldsReal cX13_foldsReal 4 none ∈ lw_ok := (lw_okof 1861 qw_1861 rfl)
theorem pd_57 : (parseMethodDescriptor "(ID)V").map (fun d => d.parameters.length) = some 2 := by decide +kernel
theorem wd_X13_foldsReal : yX13_foldsReal.cls ≠ "java/lang/invoke/MethodHandle" ∧ yX13_foldsReal.cls ≠ "java/lang/invoke/VarHandle" ∧ (parseMethodDescriptor yX13_foldsReal.desc).map (fun d => d.parameters.length) = some 2 := ⟨pn_KindGridsModel.1, pn_KindGridsModel.2, pd_57⟩
theorem wi_X13_foldsReal : Cond.instanceMethod yX13_foldsReal ∈ lw_ok := (lw_okof 1860 qw_1860 rfl)
theorem ws_X13_foldsReal : Cond.selects yX13_foldsReal.cls yX13_foldsReal yX13_foldsReal ∈ lw_ok := (lw_okof 68 qw_68 rfl)
theorem kRX13_392 : dnLV RX13 392 2 11 yX13_foldsReal cX13_foldsReal 4 none := ⟨(lw_okof 1858 qw_1858 rfl), wi_X13_foldsReal, ws_X13_foldsReal, wn_KindGridsModel, wc_X13_foldsReal, wd_X13_foldsReal, by decide, _, rfl, rfl⟩
theorem wc_X13_foldsNumber : Cond.code yX13_foldsNumber cX13_foldsNumber 5 none ∈ lw_ok := (lw_okof 1865 qw_1865 rfl)
theorem pd_58 : (parseMethodDescriptor "(IIJ)V").map (fun d => d.parameters.length) = some 3 := by decide +kernel
theorem wd_X13_foldsNumber : yX13_foldsNumber.cls ≠ "java/lang/invoke/MethodHandle" ∧ yX13_foldsNumber.cls ≠ "java/lang/invoke/VarHandle" ∧ (parseMethodDescriptor yX13_foldsNumber.desc).map (fun d => d.parameters.length) = some 3 := ⟨pn_KindGridsModel.1, pn_KindGridsModel.2, pd_58⟩
theorem wi_X13_foldsNumber : Cond.instanceMethod yX13_foldsNumber ∈ lw_ok := (lw_okof 1864 qw_1864 rfl)
theorem ws_X13_foldsNumber : Cond.selects yX13_foldsNumber.cls yX13_foldsNumber yX13_foldsNumber ∈ lw_ok := (lw_okof 69 qw_69 rfl)
theorem kRX13_396 : dnLV RX13 396 3 11 yX13_foldsNumber cX13_foldsNumber 5 none := ⟨(lw_okof 1862 qw_1862 rfl), wi_X13_foldsNumber, ws_X13_foldsNumber, wn_KindGridsModel, wc_X13_foldsNumber, wd_X13_foldsNumber, by decide, _, rfl, rfl⟩
theorem wc_X13_foldAnswer : Cond.code yX13_foldAnswer cX13_foldAnswer 12 (some .int) ∈ lw_ok := (lw_okof 1847 qw_1847 rfl)
theorem wd_X13_foldAnswer : yX13_foldAnswer.cls ≠ "java/lang/invoke/MethodHandle" ∧ yX13_foldAnswer.cls ≠ "java/lang/invoke/VarHandle" ∧ (parseMethodDescriptor yX13_foldAnswer.desc).map (fun d => d.parameters.length) = some 5 := ⟨pn_KindGridsModel.1, pn_KindGridsModel.2, pd_9⟩
theorem wi_X13_foldAnswer : Cond.instanceMethod yX13_foldAnswer ∈ lw_ok := (lw_okof 1846 qw_1846 rfl)
theorem ws_X13_foldAnswer : Cond.selects yX13_foldAnswer.cls yX13_foldAnswer yX13_foldAnswer ∈ lw_ok := (lw_okof 66 qw_66 rfl)
theorem kRX13_400 : dnLV RX13 400 5 11 yX13_foldAnswer cX13_foldAnswer 12 (some .int) := ⟨(lw_okof 1844 qw_1844 rfl), wi_X13_foldAnswer, ws_X13_foldAnswer, wn_KindGridsModel, wc_X13_foldAnswer, wd_X13_foldAnswer, by decide, _, rfl, rfl⟩
theorem wc_X13_dotAnswer : Cond.code yX13_dotAnswer cX13_dotAnswer 15 (some .int) ∈ lw_ok := (lw_okof 1873 qw_1873 rfl)
theorem wd_X13_dotAnswer : yX13_dotAnswer.cls ≠ "java/lang/invoke/MethodHandle" ∧ yX13_dotAnswer.cls ≠ "java/lang/invoke/VarHandle" ∧ (parseMethodDescriptor yX13_dotAnswer.desc).map (fun d => d.parameters.length) = some 5 := ⟨pn_KindGridsModel.1, pn_KindGridsModel.2, pd_9⟩
theorem wi_X13_dotAnswer : Cond.instanceMethod yX13_dotAnswer ∈ lw_ok := (lw_okof 1872 qw_1872 rfl)
theorem ws_X13_dotAnswer : Cond.selects yX13_dotAnswer.cls yX13_dotAnswer yX13_dotAnswer ∈ lw_ok := (lw_okof 70 qw_70 rfl)
theorem kRX13_403 : dnLV RX13 403 5 11 yX13_dotAnswer cX13_dotAnswer 15 (some .int) := ⟨(lw_okof 1870 qw_1870 rfl), wi_X13_dotAnswer, ws_X13_dotAnswer, wn_KindGridsModel, wc_X13_dotAnswer, wd_X13_dotAnswer, by decide, _, rfl, rfl⟩
theorem wc_X13_trails : Cond.code yX13_trails cX13_trails 5 none ∈ lw_ok := (lw_okof 1885 qw_1885 rfl)
theorem pd_59 : (parseMethodDescriptor "(IZ)V").map (fun d => d.parameters.length) = some 2 := by decide +kernel
theorem wd_X13_trails : yX13_trails.cls ≠ "java/lang/invoke/MethodHandle" ∧ yX13_trails.cls ≠ "java/lang/invoke/VarHandle" ∧ (parseMethodDescriptor yX13_trails.desc).map (fun d => d.parameters.length) = some 2 := ⟨pn_KindGridsModel.1, pn_KindGridsModel.2, pd_59⟩
theorem wi_X13_trails : Cond.instanceMethod yX13_trails ∈ lw_ok := (lw_okof 1884 qw_1884 rfl)
theorem ws_X13_trails : Cond.selects yX13_trails.cls yX13_trails yX13_trails ∈ lw_ok := (lw_okof 72 qw_72 rfl)
theorem kRX13_406 : dnLV RX13 406 2 11 yX13_trails cX13_trails 5 none := ⟨(lw_okof 1882 qw_1882 rfl), wi_X13_trails, ws_X13_trails, wn_KindGridsModel, wc_X13_trails, wd_X13_trails, by decide, _, rfl, rfl⟩
theorem wc_X13_trailAnswer : Cond.code yX13_trailAnswer cX13_trailAnswer 5 (some .int) ∈ lw_ok := (lw_okof 1881 qw_1881 rfl)
theorem wd_X13_trailAnswer : yX13_trailAnswer.cls ≠ "java/lang/invoke/MethodHandle" ∧ yX13_trailAnswer.cls ≠ "java/lang/invoke/VarHandle" ∧ (parseMethodDescriptor yX13_trailAnswer.desc).map (fun d => d.parameters.length) = some 1 := ⟨pn_KindGridsModel.1, pn_KindGridsModel.2, pd_4⟩
theorem wi_X13_trailAnswer : Cond.instanceMethod yX13_trailAnswer ∈ lw_ok := (lw_okof 1880 qw_1880 rfl)
theorem ws_X13_trailAnswer : Cond.selects yX13_trailAnswer.cls yX13_trailAnswer yX13_trailAnswer ∈ lw_ok := (lw_okof 71 qw_71 rfl)
theorem kRX13_410 : dnLV RX13 410 1 11 yX13_trailAnswer cX13_trailAnswer 5 (some .int) := ⟨(lw_okof 1878 qw_1878 rfl), wi_X13_trailAnswer, ws_X13_trailAnswer, wn_KindGridsModel, wc_X13_trailAnswer, wd_X13_trailAnswer, by decide, _, rfl, rfl⟩
theorem wc_X13_cellAt : Cond.code yX13_cellAt cX13_cellAt 3 (some .int) ∈ lw_ok := (lw_okof 1913 qw_1913 rfl)
theorem wd_X13_cellAt : yX13_cellAt.cls ≠ "java/lang/invoke/MethodHandle" ∧ yX13_cellAt.cls ≠ "java/lang/invoke/VarHandle" ∧ (parseMethodDescriptor yX13_cellAt.desc).map (fun d => d.parameters.length) = some 2 := ⟨pn_KindGridsModel.1, pn_KindGridsModel.2, pd_3⟩
theorem wi_X13_cellAt : Cond.instanceMethod yX13_cellAt ∈ lw_ok := (lw_okof 1912 qw_1912 rfl)
theorem ws_X13_cellAt : Cond.selects yX13_cellAt.cls yX13_cellAt yX13_cellAt ∈ lw_ok := (lw_okof 78 qw_78 rfl)
theorem kRX13_413 : dnLV RX13 413 2 11 yX13_cellAt cX13_cellAt 3 (some .int) := ⟨(lw_okof 1910 qw_1910 rfl), wi_X13_cellAt, ws_X13_cellAt, wn_KindGridsModel, wc_X13_cellAt, wd_X13_cellAt, by decide, _, rfl, rfl⟩
theorem wc_X13_joins : Cond.code yX13_joins cX13_joins 5 (some .boolean) ∈ lw_ok := (lw_okof 1909 qw_1909 rfl)
theorem wd_X13_joins : yX13_joins.cls ≠ "java/lang/invoke/MethodHandle" ∧ yX13_joins.cls ≠ "java/lang/invoke/VarHandle" ∧ (parseMethodDescriptor yX13_joins.desc).map (fun d => d.parameters.length) = some 4 := ⟨pn_KindGridsModel.1, pn_KindGridsModel.2, pd_41⟩
theorem wi_X13_joins : Cond.instanceMethod yX13_joins ∈ lw_ok := (lw_okof 1908 qw_1908 rfl)
theorem ws_X13_joins : Cond.selects yX13_joins.cls yX13_joins yX13_joins ∈ lw_ok := (lw_okof 77 qw_77 rfl)
theorem kRX13_416 : dnLV RX13 416 4 11 yX13_joins cX13_joins 5 (some .boolean) := ⟨(lw_okof 1906 qw_1906 rfl), wi_X13_joins, ws_X13_joins, wn_KindGridsModel, wc_X13_joins, wd_X13_joins, by decide, _, rfl, rfl⟩
theorem wc_X13_isBeside : Cond.code yX13_isBeside cX13_isBeside 6 (some .boolean) ∈ lw_ok := (lw_okof 1905 qw_1905 rfl)
theorem wd_X13_isBeside : yX13_isBeside.cls ≠ "java/lang/invoke/MethodHandle" ∧ yX13_isBeside.cls ≠ "java/lang/invoke/VarHandle" ∧ (parseMethodDescriptor yX13_isBeside.desc).map (fun d => d.parameters.length) = some 3 := ⟨pn_KindGridsModel.1, pn_KindGridsModel.2, pd_50⟩
theorem wi_X13_isBeside : Cond.instanceMethod yX13_isBeside ∈ lw_ok := (lw_okof 1904 qw_1904 rfl)
theorem ws_X13_isBeside : Cond.selects yX13_isBeside.cls yX13_isBeside yX13_isBeside ∈ lw_ok := (lw_okof 76 qw_76 rfl)
theorem kRX13_419 : dnLV RX13 419 3 11 yX13_isBeside cX13_isBeside 6 (some .boolean) := ⟨(lw_okof 1902 qw_1902 rfl), wi_X13_isBeside, ws_X13_isBeside, wn_KindGridsModel, wc_X13_isBeside, wd_X13_isBeside, by decide, _, rfl, rfl⟩
theorem wc_X13_noMarks : Cond.code yX13_noMarks cX13_noMarks 2 none ∈ lw_ok := (lw_okof 1897 qw_1897 rfl)
theorem wd_X13_noMarks : yX13_noMarks.cls ≠ "java/lang/invoke/MethodHandle" ∧ yX13_noMarks.cls ≠ "java/lang/invoke/VarHandle" ∧ (parseMethodDescriptor yX13_noMarks.desc).map (fun d => d.parameters.length) = some 0 := ⟨pn_KindGridsModel.1, pn_KindGridsModel.2, pd_0⟩
theorem wi_X13_noMarks : Cond.instanceMethod yX13_noMarks ∈ lw_ok := (lw_okof 1896 qw_1896 rfl)
theorem ws_X13_noMarks : Cond.selects yX13_noMarks.cls yX13_noMarks yX13_noMarks ∈ lw_ok := (lw_okof 74 qw_74 rfl)
theorem kRX13_422 : dnLV RX13 422 0 11 yX13_noMarks cX13_noMarks 2 none := ⟨(lw_okof 1894 qw_1894 rfl), wi_X13_noMarks, ws_X13_noMarks, wn_KindGridsModel, wc_X13_noMarks, wd_X13_noMarks, by decide, _, rfl, rfl⟩
theorem wc_X13_grows : Cond.code yX13_grows cX13_grows 7 (some .int) ∈ lw_ok := (lw_okof 1901 qw_1901 rfl)
theorem wd_X13_grows : yX13_grows.cls ≠ "java/lang/invoke/MethodHandle" ∧ yX13_grows.cls ≠ "java/lang/invoke/VarHandle" ∧ (parseMethodDescriptor yX13_grows.desc).map (fun d => d.parameters.length) = some 3 := ⟨pn_KindGridsModel.1, pn_KindGridsModel.2, pd_6⟩
theorem wi_X13_grows : Cond.instanceMethod yX13_grows ∈ lw_ok := (lw_okof 1900 qw_1900 rfl)
theorem ws_X13_grows : Cond.selects yX13_grows.cls yX13_grows yX13_grows ∈ lw_ok := (lw_okof 75 qw_75 rfl)
theorem kRX13_425 : dnLV RX13 425 3 11 yX13_grows cX13_grows 7 (some .int) := ⟨(lw_okof 1898 qw_1898 rfl), wi_X13_grows, ws_X13_grows, wn_KindGridsModel, wc_X13_grows, wd_X13_grows, by decide, _, rfl, rfl⟩
theorem kRX13_428 : Cond.constantLong RX13 428 (100 : Int64) ∈ lw_ok := (lw_okof 1914 qw_1914 rfl)
theorem wc_X13_patchAnswer : Cond.code yX13_patchAnswer cX13_patchAnswer 7 (some .int) ∈ lw_ok := (lw_okof 1893 qw_1893 rfl)
theorem wd_X13_patchAnswer : yX13_patchAnswer.cls ≠ "java/lang/invoke/MethodHandle" ∧ yX13_patchAnswer.cls ≠ "java/lang/invoke/VarHandle" ∧ (parseMethodDescriptor yX13_patchAnswer.desc).map (fun d => d.parameters.length) = some 3 := ⟨pn_KindGridsModel.1, pn_KindGridsModel.2, pd_6⟩
theorem wi_X13_patchAnswer : Cond.instanceMethod yX13_patchAnswer ∈ lw_ok := (lw_okof 1892 qw_1892 rfl)
theorem ws_X13_patchAnswer : Cond.selects yX13_patchAnswer.cls yX13_patchAnswer yX13_patchAnswer ∈ lw_ok := (lw_okof 73 qw_73 rfl)
theorem kRX13_430 : dnLV RX13 430 3 11 yX13_patchAnswer cX13_patchAnswer 7 (some .int) := ⟨(lw_okof 1890 qw_1890 rfl), wi_X13_patchAnswer, ws_X13_patchAnswer, wn_KindGridsModel, wc_X13_patchAnswer, wd_X13_patchAnswer, by decide, _, rfl, rfl⟩
theorem wc_X13_patchesAnswer : Cond.code yX13_patchesAnswer cX13_patchesAnswer 6 (some .int) ∈ lw_ok := (lw_okof 1922 qw_1922 rfl)
theorem wd_X13_patchesAnswer : yX13_patchesAnswer.cls ≠ "java/lang/invoke/MethodHandle" ∧ yX13_patchesAnswer.cls ≠ "java/lang/invoke/VarHandle" ∧ (parseMethodDescriptor yX13_patchesAnswer.desc).map (fun d => d.parameters.length) = some 1 := ⟨pn_KindGridsModel.1, pn_KindGridsModel.2, pd_4⟩
theorem wi_X13_patchesAnswer : Cond.instanceMethod yX13_patchesAnswer ∈ lw_ok := (lw_okof 1921 qw_1921 rfl)
theorem ws_X13_patchesAnswer : Cond.selects yX13_patchesAnswer.cls yX13_patchesAnswer yX13_patchesAnswer ∈ lw_ok := (lw_okof 79 qw_79 rfl)
theorem kRX13_433 : dnLV RX13 433 1 11 yX13_patchesAnswer cX13_patchesAnswer 6 (some .int) := ⟨(lw_okof 1919 qw_1919 rfl), wi_X13_patchesAnswer, ws_X13_patchesAnswer, wn_KindGridsModel, wc_X13_patchesAnswer, wd_X13_patchesAnswer, by decide, _, rfl, rfl⟩
theorem wc_X13_paintDeed : Cond.code yX13_paintDeed cX13_paintDeed 10 (some .int) ∈ lw_ok := (lw_okof 1930 qw_1930 rfl)
theorem wd_X13_paintDeed : yX13_paintDeed.cls ≠ "java/lang/invoke/MethodHandle" ∧ yX13_paintDeed.cls ≠ "java/lang/invoke/VarHandle" ∧ (parseMethodDescriptor yX13_paintDeed.desc).map (fun d => d.parameters.length) = some 5 := ⟨pn_KindGridsModel.1, pn_KindGridsModel.2, pd_7⟩
theorem wi_X13_paintDeed : Cond.instanceMethod yX13_paintDeed ∈ lw_ok := (lw_okof 1929 qw_1929 rfl)
theorem ws_X13_paintDeed : Cond.selects yX13_paintDeed.cls yX13_paintDeed yX13_paintDeed ∈ lw_ok := (lw_okof 80 qw_80 rfl)
theorem kRX13_436 : dnLV RX13 436 5 11 yX13_paintDeed cX13_paintDeed 10 (some .int) := ⟨(lw_okof 1927 qw_1927 rfl), wi_X13_paintDeed, ws_X13_paintDeed, wn_KindGridsModel, wc_X13_paintDeed, wd_X13_paintDeed, by decide, _, rfl, rfl⟩
theorem wc_X13_isBlock : Cond.code yX13_isBlock cX13_isBlock 8 (some .boolean) ∈ lw_ok := (lw_okof 1942 qw_1942 rfl)
theorem pd_60 : (parseMethodDescriptor "(IIIII)Z").map (fun d => d.parameters.length) = some 5 := by decide +kernel
theorem wd_X13_isBlock : yX13_isBlock.cls ≠ "java/lang/invoke/MethodHandle" ∧ yX13_isBlock.cls ≠ "java/lang/invoke/VarHandle" ∧ (parseMethodDescriptor yX13_isBlock.desc).map (fun d => d.parameters.length) = some 5 := ⟨pn_KindGridsModel.1, pn_KindGridsModel.2, pd_60⟩
theorem wi_X13_isBlock : Cond.instanceMethod yX13_isBlock ∈ lw_ok := (lw_okof 1941 qw_1941 rfl)
theorem ws_X13_isBlock : Cond.selects yX13_isBlock.cls yX13_isBlock yX13_isBlock ∈ lw_ok := (lw_okof 82 qw_82 rfl)
theorem kRX13_442 : dnLV RX13 442 5 11 yX13_isBlock cX13_isBlock 8 (some .boolean) := ⟨(lw_okof 1939 qw_1939 rfl), wi_X13_isBlock, ws_X13_isBlock, wn_KindGridsModel, wc_X13_isBlock, wd_X13_isBlock, by decide, _, rfl, rfl⟩
theorem kRX13_446 : Cond.constant RX13 446 (1000000 : Int32) ∈ lw_ok := (lw_okof 1943 qw_1943 rfl)
theorem wc_X13_blockAnswer : Cond.code yX13_blockAnswer cX13_blockAnswer 9 (some .int) ∈ lw_ok := (lw_okof 1938 qw_1938 rfl)
theorem wd_X13_blockAnswer : yX13_blockAnswer.cls ≠ "java/lang/invoke/MethodHandle" ∧ yX13_blockAnswer.cls ≠ "java/lang/invoke/VarHandle" ∧ (parseMethodDescriptor yX13_blockAnswer.desc).map (fun d => d.parameters.length) = some 1 := ⟨pn_KindGridsModel.1, pn_KindGridsModel.2, pd_4⟩
theorem wi_X13_blockAnswer : Cond.instanceMethod yX13_blockAnswer ∈ lw_ok := (lw_okof 1937 qw_1937 rfl)
theorem ws_X13_blockAnswer : Cond.selects yX13_blockAnswer.cls yX13_blockAnswer yX13_blockAnswer ∈ lw_ok := (lw_okof 81 qw_81 rfl)
theorem kRX13_447 : dnLV RX13 447 1 11 yX13_blockAnswer cX13_blockAnswer 9 (some .int) := ⟨(lw_okof 1935 qw_1935 rfl), wi_X13_blockAnswer, ws_X13_blockAnswer, wn_KindGridsModel, wc_X13_blockAnswer, wd_X13_blockAnswer, by decide, _, rfl, rfl⟩
theorem wc_X13_isLying : Cond.code yX13_isLying cX13_isLying 9 (some .boolean) ∈ lw_ok := (lw_okof 1955 qw_1955 rfl)
theorem wd_X13_isLying : yX13_isLying.cls ≠ "java/lang/invoke/MethodHandle" ∧ yX13_isLying.cls ≠ "java/lang/invoke/VarHandle" ∧ (parseMethodDescriptor yX13_isLying.desc).map (fun d => d.parameters.length) = some 4 := ⟨pn_KindGridsModel.1, pn_KindGridsModel.2, pd_41⟩
theorem wi_X13_isLying : Cond.instanceMethod yX13_isLying ∈ lw_ok := (lw_okof 1954 qw_1954 rfl)
theorem ws_X13_isLying : Cond.selects yX13_isLying.cls yX13_isLying yX13_isLying ∈ lw_ok := (lw_okof 84 qw_84 rfl)
theorem kRX13_450 : dnLV RX13 450 4 11 yX13_isLying cX13_isLying 9 (some .boolean) := ⟨(lw_okof 1952 qw_1952 rfl), wi_X13_isLying, ws_X13_isLying, wn_KindGridsModel, wc_X13_isLying, wd_X13_isLying, by decide, _, rfl, rfl⟩
theorem wc_X13_liesAnswer : Cond.code yX13_liesAnswer cX13_liesAnswer 8 (some .int) ∈ lw_ok := (lw_okof 1951 qw_1951 rfl)
theorem wd_X13_liesAnswer : yX13_liesAnswer.cls ≠ "java/lang/invoke/MethodHandle" ∧ yX13_liesAnswer.cls ≠ "java/lang/invoke/VarHandle" ∧ (parseMethodDescriptor yX13_liesAnswer.desc).map (fun d => d.parameters.length) = some 3 := ⟨pn_KindGridsModel.1, pn_KindGridsModel.2, pd_6⟩
theorem wi_X13_liesAnswer : Cond.instanceMethod yX13_liesAnswer ∈ lw_ok := (lw_okof 1950 qw_1950 rfl)
theorem ws_X13_liesAnswer : Cond.selects yX13_liesAnswer.cls yX13_liesAnswer yX13_liesAnswer ∈ lw_ok := (lw_okof 83 qw_83 rfl)
theorem kRX13_453 : dnLV RX13 453 3 11 yX13_liesAnswer cX13_liesAnswer 8 (some .int) := ⟨(lw_okof 1948 qw_1948 rfl), wi_X13_liesAnswer, ws_X13_liesAnswer, wn_KindGridsModel, wc_X13_liesAnswer, wd_X13_liesAnswer, by decide, _, rfl, rfl⟩
theorem wc_X13_keeps : Cond.code yX13_keeps cX13_keeps 3 none ∈ lw_ok := (lw_okof 1963 qw_1963 rfl)
theorem wd_X13_keeps : yX13_keeps.cls ≠ "java/lang/invoke/MethodHandle" ∧ yX13_keeps.cls ≠ "java/lang/invoke/VarHandle" ∧ (parseMethodDescriptor yX13_keeps.desc).map (fun d => d.parameters.length) = some 1 := ⟨pn_KindGridsModel.1, pn_KindGridsModel.2, pd_19⟩
theorem wi_X13_keeps : Cond.instanceMethod yX13_keeps ∈ lw_ok := (lw_okof 1962 qw_1962 rfl)
theorem ws_X13_keeps : Cond.selects yX13_keeps.cls yX13_keeps yX13_keeps ∈ lw_ok := (lw_okof 85 qw_85 rfl)
theorem kRX13_456 : dnLV RX13 456 1 11 yX13_keeps cX13_keeps 3 none := ⟨(lw_okof 1960 qw_1960 rfl), wi_X13_keeps, ws_X13_keeps, wn_KindGridsModel, wc_X13_keeps, wd_X13_keeps, by decide, _, rfl, rfl⟩
theorem wc_X13_gridMany : Cond.code yX13_gridMany cX13_gridMany 3 (some .int) ∈ lw_ok := (lw_okof 1967 qw_1967 rfl)
theorem wd_X13_gridMany : yX13_gridMany.cls ≠ "java/lang/invoke/MethodHandle" ∧ yX13_gridMany.cls ≠ "java/lang/invoke/VarHandle" ∧ (parseMethodDescriptor yX13_gridMany.desc).map (fun d => d.parameters.length) = some 0 := ⟨pn_KindGridsModel.1, pn_KindGridsModel.2, pd_11⟩
theorem wi_X13_gridMany : Cond.instanceMethod yX13_gridMany ∈ lw_ok := (lw_okof 1966 qw_1966 rfl)
theorem ws_X13_gridMany : Cond.selects yX13_gridMany.cls yX13_gridMany yX13_gridMany ∈ lw_ok := (lw_okof 86 qw_86 rfl)
theorem kRX13_459 : dnLV RX13 459 0 11 yX13_gridMany cX13_gridMany 3 (some .int) := ⟨(lw_okof 1964 qw_1964 rfl), wi_X13_gridMany, ws_X13_gridMany, wn_KindGridsModel, wc_X13_gridMany, wd_X13_gridMany, by decide, _, rfl, rfl⟩
theorem wc_X13_comesBack : Cond.code yX13_comesBack cX13_comesBack 3 none ∈ lw_ok := (lw_okof 1975 qw_1975 rfl)
theorem wd_X13_comesBack : yX13_comesBack.cls ≠ "java/lang/invoke/MethodHandle" ∧ yX13_comesBack.cls ≠ "java/lang/invoke/VarHandle" ∧ (parseMethodDescriptor yX13_comesBack.desc).map (fun d => d.parameters.length) = some 1 := ⟨pn_KindGridsModel.1, pn_KindGridsModel.2, pd_19⟩
theorem wi_X13_comesBack : Cond.instanceMethod yX13_comesBack ∈ lw_ok := (lw_okof 1974 qw_1974 rfl)
theorem ws_X13_comesBack : Cond.selects yX13_comesBack.cls yX13_comesBack yX13_comesBack ∈ lw_ok := (lw_okof 87 qw_87 rfl)
theorem kRX13_463 : dnLV RX13 463 1 11 yX13_comesBack cX13_comesBack 3 none := ⟨(lw_okof 1972 qw_1972 rfl), wi_X13_comesBack, ws_X13_comesBack, wn_KindGridsModel, wc_X13_comesBack, wd_X13_comesBack, by decide, _, rfl, rfl⟩
theorem wc_X13_isLetter : Cond.code yX13_isLetter cX13_isLetter 2 (some .boolean) ∈ lw_ok := (lw_okof 2007 qw_2007 rfl)
theorem wd_X13_isLetter : yX13_isLetter.cls ≠ "java/lang/invoke/MethodHandle" ∧ yX13_isLetter.cls ≠ "java/lang/invoke/VarHandle" ∧ (parseMethodDescriptor yX13_isLetter.desc).map (fun d => d.parameters.length) = some 1 := ⟨pn_KindGridsModel.1, pn_KindGridsModel.2, pd_13⟩
theorem wi_X13_isLetter : Cond.instanceMethod yX13_isLetter ∈ lw_ok := (lw_okof 2006 qw_2006 rfl)
theorem ws_X13_isLetter : Cond.selects yX13_isLetter.cls yX13_isLetter yX13_isLetter ∈ lw_ok := (lw_okof 92 qw_92 rfl)
theorem kRX13_472 : dnLV RX13 472 1 11 yX13_isLetter cX13_isLetter 2 (some .boolean) := ⟨(lw_okof 2004 qw_2004 rfl), wi_X13_isLetter, ws_X13_isLetter, wn_KindGridsModel, wc_X13_isLetter, wd_X13_isLetter, by decide, _, rfl, rfl⟩
theorem kRX13_475 : Cond.constantLong RX13 475 (32 : Int64) ∈ lw_ok := (lw_okof 2012 qw_2012 rfl)
theorem kRX13_477 : Cond.constantLong RX13 477 (-1 : Int64) ∈ lw_ok := (lw_okof 2013 qw_2013 rfl)
theorem wc_X13_packed : Cond.code yX13_packed cX13_packed 4 (some .long) ∈ lw_ok := (lw_okof 2019 qw_2019 rfl)
theorem wd_X13_packed : yX13_packed.cls ≠ "java/lang/invoke/MethodHandle" ∧ yX13_packed.cls ≠ "java/lang/invoke/VarHandle" ∧ (parseMethodDescriptor yX13_packed.desc).map (fun d => d.parameters.length) = some 4 := ⟨pn_KindGridsModel.1, pn_KindGridsModel.2, pd_56⟩
theorem wt_X13_packed : Cond.static yX13_packed ∈ lw_ok := (lw_okof 2018 qw_2018 rfl)
theorem kRX13_479 : dnLS RX13 479 4 yX13_packed cX13_packed 4 (some .long) := ⟨(lw_okof 2017 qw_2017 rfl), wt_X13_packed, wn_KindGridsModel, wc_X13_packed, wd_X13_packed⟩
theorem kRX13_482 : Cond.constantLong RX13 482 (5 : Int64) ∈ lw_ok := (lw_okof 2020 qw_2020 rfl)
theorem wc_X13_laterDeed : Cond.code yX13_laterDeed cX13_laterDeed 2 (some .int) ∈ lw_ok := (lw_okof 2023 qw_2023 rfl)
theorem pd_61 : (parseMethodDescriptor "(J)I").map (fun d => d.parameters.length) = some 1 := by decide +kernel
theorem wd_X13_laterDeed : yX13_laterDeed.cls ≠ "java/lang/invoke/MethodHandle" ∧ yX13_laterDeed.cls ≠ "java/lang/invoke/VarHandle" ∧ (parseMethodDescriptor yX13_laterDeed.desc).map (fun d => d.parameters.length) = some 1 := ⟨pn_KindGridsModel.1, pn_KindGridsModel.2, pd_61⟩
theorem wt_X13_laterDeed : Cond.static yX13_laterDeed ∈ lw_ok := (lw_okof 2022 qw_2022 rfl)
theorem kRX13_484 : dnLS RX13 484 1 yX13_laterDeed cX13_laterDeed 2 (some .int) := ⟨(lw_okof 2021 qw_2021 rfl), wt_X13_laterDeed, wn_KindGridsModel, wc_X13_laterDeed, wd_X13_laterDeed⟩
theorem kRX13_488 : Cond.constantLong RX13 488 (18 : Int64) ∈ lw_ok := (lw_okof 2024 qw_2024 rfl)
theorem wc_X13_isFigure : Cond.code yX13_isFigure cX13_isFigure 2 (some .boolean) ∈ lw_ok := (lw_okof 2035 qw_2035 rfl)
theorem wd_X13_isFigure : yX13_isFigure.cls ≠ "java/lang/invoke/MethodHandle" ∧ yX13_isFigure.cls ≠ "java/lang/invoke/VarHandle" ∧ (parseMethodDescriptor yX13_isFigure.desc).map (fun d => d.parameters.length) = some 1 := ⟨pn_KindGridsModel.1, pn_KindGridsModel.2, pd_13⟩
theorem wi_X13_isFigure : Cond.instanceMethod yX13_isFigure ∈ lw_ok := (lw_okof 2034 qw_2034 rfl)
theorem ws_X13_isFigure : Cond.selects yX13_isFigure.cls yX13_isFigure yX13_isFigure ∈ lw_ok := (lw_okof 95 qw_95 rfl)
theorem kRX13_493 : dnLV RX13 493 1 11 yX13_isFigure cX13_isFigure 2 (some .boolean) := ⟨(lw_okof 2032 qw_2032 rfl), wi_X13_isFigure, ws_X13_isFigure, wn_KindGridsModel, wc_X13_isFigure, wd_X13_isFigure, by decide, _, rfl, rfl⟩
theorem wc_X13_word : Cond.code yX13_word cX13_word 4 (some .long) ∈ lw_ok := (lw_okof 2011 qw_2011 rfl)
theorem wd_X13_word : yX13_word.cls ≠ "java/lang/invoke/MethodHandle" ∧ yX13_word.cls ≠ "java/lang/invoke/VarHandle" ∧ (parseMethodDescriptor yX13_word.desc).map (fun d => d.parameters.length) = some 0 := ⟨pn_KindGridsModel.1, pn_KindGridsModel.2, pd_15⟩
theorem wi_X13_word : Cond.instanceMethod yX13_word ∈ lw_ok := (lw_okof 2010 qw_2010 rfl)
theorem ws_X13_word : Cond.selects yX13_word.cls yX13_word yX13_word ∈ lw_ok := (lw_okof 93 qw_93 rfl)
theorem kRX13_499 : dnLV RX13 499 0 11 yX13_word cX13_word 4 (some .long) := ⟨(lw_okof 2008 qw_2008 rfl), wi_X13_word, ws_X13_word, wn_KindGridsModel, wc_X13_word, wd_X13_word, by decide, _, rfl, rfl⟩
theorem wc_X13_deedOf : Cond.code yX13_deedOf cX13_deedOf 2 (some .int) ∈ lw_ok := (lw_okof 2016 qw_2016 rfl)
theorem wd_X13_deedOf : yX13_deedOf.cls ≠ "java/lang/invoke/MethodHandle" ∧ yX13_deedOf.cls ≠ "java/lang/invoke/VarHandle" ∧ (parseMethodDescriptor yX13_deedOf.desc).map (fun d => d.parameters.length) = some 1 := ⟨pn_KindGridsModel.1, pn_KindGridsModel.2, pd_61⟩
theorem wt_X13_deedOf : Cond.static yX13_deedOf ∈ lw_ok := (lw_okof 2015 qw_2015 rfl)
theorem kRX13_502 : dnLS RX13 502 1 yX13_deedOf cX13_deedOf 2 (some .int) := ⟨(lw_okof 2014 qw_2014 rfl), wt_X13_deedOf, wn_KindGridsModel, wc_X13_deedOf, wd_X13_deedOf⟩
theorem wc_X13_numbersOf : Cond.code yX13_numbersOf cX13_numbersOf 1 (some .int) ∈ lw_ok := (lw_okof 2027 qw_2027 rfl)
theorem wd_X13_numbersOf : yX13_numbersOf.cls ≠ "java/lang/invoke/MethodHandle" ∧ yX13_numbersOf.cls ≠ "java/lang/invoke/VarHandle" ∧ (parseMethodDescriptor yX13_numbersOf.desc).map (fun d => d.parameters.length) = some 1 := ⟨pn_KindGridsModel.1, pn_KindGridsModel.2, pd_4⟩
theorem wt_X13_numbersOf : Cond.static yX13_numbersOf ∈ lw_ok := (lw_okof 2026 qw_2026 rfl)
theorem kRX13_505 : dnLS RX13 505 1 yX13_numbersOf cX13_numbersOf 1 (some .int) := ⟨(lw_okof 2025 qw_2025 rfl), wt_X13_numbersOf, wn_KindGridsModel, wc_X13_numbersOf, wd_X13_numbersOf⟩
theorem wc_X13_passesBlanks : Cond.code yX13_passesBlanks cX13_passesBlanks 1 none ∈ lw_ok := (lw_okof 1999 qw_1999 rfl)
theorem wd_X13_passesBlanks : yX13_passesBlanks.cls ≠ "java/lang/invoke/MethodHandle" ∧ yX13_passesBlanks.cls ≠ "java/lang/invoke/VarHandle" ∧ (parseMethodDescriptor yX13_passesBlanks.desc).map (fun d => d.parameters.length) = some 0 := ⟨pn_KindGridsModel.1, pn_KindGridsModel.2, pd_0⟩
theorem wi_X13_passesBlanks : Cond.instanceMethod yX13_passesBlanks ∈ lw_ok := (lw_okof 1998 qw_1998 rfl)
theorem ws_X13_passesBlanks : Cond.selects yX13_passesBlanks.cls yX13_passesBlanks yX13_passesBlanks ∈ lw_ok := (lw_okof 90 qw_90 rfl)
theorem kRX13_508 : dnLV RX13 508 0 11 yX13_passesBlanks cX13_passesBlanks 1 none := ⟨(lw_okof 1996 qw_1996 rfl), wi_X13_passesBlanks, ws_X13_passesBlanks, wn_KindGridsModel, wc_X13_passesBlanks, wd_X13_passesBlanks, by decide, _, rfl, rfl⟩
theorem wc_X13_readsNumber : Cond.code yX13_readsNumber cX13_readsNumber 3 (some .boolean) ∈ lw_ok := (lw_okof 2031 qw_2031 rfl)
theorem pd_62 : (parseMethodDescriptor "()Z").map (fun d => d.parameters.length) = some 0 := by decide +kernel
theorem wd_X13_readsNumber : yX13_readsNumber.cls ≠ "java/lang/invoke/MethodHandle" ∧ yX13_readsNumber.cls ≠ "java/lang/invoke/VarHandle" ∧ (parseMethodDescriptor yX13_readsNumber.desc).map (fun d => d.parameters.length) = some 0 := ⟨pn_KindGridsModel.1, pn_KindGridsModel.2, pd_62⟩
theorem wi_X13_readsNumber : Cond.instanceMethod yX13_readsNumber ∈ lw_ok := (lw_okof 2030 qw_2030 rfl)
theorem ws_X13_readsNumber : Cond.selects yX13_readsNumber.cls yX13_readsNumber yX13_readsNumber ∈ lw_ok := (lw_okof 94 qw_94 rfl)
theorem kRX13_511 : dnLV RX13 511 0 11 yX13_readsNumber cX13_readsNumber 3 (some .boolean) := ⟨(lw_okof 2028 qw_2028 rfl), wi_X13_readsNumber, ws_X13_readsNumber, wn_KindGridsModel, wc_X13_readsNumber, wd_X13_readsNumber, by decide, _, rfl, rfl⟩
theorem wc_X13_readsStep : Cond.code yX13_readsStep cX13_readsStep 4 (some .boolean) ∈ lw_ok := (lw_okof 2003 qw_2003 rfl)
theorem wd_X13_readsStep : yX13_readsStep.cls ≠ "java/lang/invoke/MethodHandle" ∧ yX13_readsStep.cls ≠ "java/lang/invoke/VarHandle" ∧ (parseMethodDescriptor yX13_readsStep.desc).map (fun d => d.parameters.length) = some 0 := ⟨pn_KindGridsModel.1, pn_KindGridsModel.2, pd_62⟩
theorem wi_X13_readsStep : Cond.instanceMethod yX13_readsStep ∈ lw_ok := (lw_okof 2002 qw_2002 rfl)
theorem ws_X13_readsStep : Cond.selects yX13_readsStep.cls yX13_readsStep yX13_readsStep ∈ lw_ok := (lw_okof 91 qw_91 rfl)
theorem kRX13_515 : dnLV RX13 515 0 11 yX13_readsStep cX13_readsStep 4 (some .boolean) := ⟨(lw_okof 2000 qw_2000 rfl), wi_X13_readsStep, ws_X13_readsStep, wn_KindGridsModel, wc_X13_readsStep, wd_X13_readsStep, by decide, _, rfl, rfl⟩
theorem wc_X13_reads : Cond.code yX13_reads cX13_reads 1 (some .boolean) ∈ lw_ok := (lw_okof 1995 qw_1995 rfl)
theorem wd_X13_reads : yX13_reads.cls ≠ "java/lang/invoke/MethodHandle" ∧ yX13_reads.cls ≠ "java/lang/invoke/VarHandle" ∧ (parseMethodDescriptor yX13_reads.desc).map (fun d => d.parameters.length) = some 0 := ⟨pn_KindGridsModel.1, pn_KindGridsModel.2, pd_62⟩
theorem wi_X13_reads : Cond.instanceMethod yX13_reads ∈ lw_ok := (lw_okof 1994 qw_1994 rfl)
theorem ws_X13_reads : Cond.selects yX13_reads.cls yX13_reads yX13_reads ∈ lw_ok := (lw_okof 89 qw_89 rfl)
theorem kRX13_518 : dnLV RX13 518 0 11 yX13_reads cX13_reads 1 (some .boolean) := ⟨(lw_okof 1992 qw_1992 rfl), wi_X13_reads, ws_X13_reads, wn_KindGridsModel, wc_X13_reads, wd_X13_reads, by decide, _, rfl, rfl⟩
theorem wc_X13_does : Cond.code yX13_does cX13_does 7 (some .int) ∈ lw_ok := (lw_okof 2039 qw_2039 rfl)
theorem pd_63 : (parseMethodDescriptor "(IIIIII)I").map (fun d => d.parameters.length) = some 6 := by decide +kernel
theorem wd_X13_does : yX13_does.cls ≠ "java/lang/invoke/MethodHandle" ∧ yX13_does.cls ≠ "java/lang/invoke/VarHandle" ∧ (parseMethodDescriptor yX13_does.desc).map (fun d => d.parameters.length) = some 6 := ⟨pn_KindGridsModel.1, pn_KindGridsModel.2, pd_63⟩
theorem wi_X13_does : Cond.instanceMethod yX13_does ∈ lw_ok := (lw_okof 2038 qw_2038 rfl)
theorem ws_X13_does : Cond.selects yX13_does.cls yX13_does yX13_does ∈ lw_ok := (lw_okof 96 qw_96 rfl)
theorem kRX13_521 : dnLV RX13 521 6 11 yX13_does cX13_does 7 (some .int) := ⟨(lw_okof 2036 qw_2036 rfl), wi_X13_does, ws_X13_does, wn_KindGridsModel, wc_X13_does, wd_X13_does, by decide, _, rfl, rfl⟩
theorem wc_X13_planDeed : Cond.code yX13_planDeed cX13_planDeed 4 (some .int) ∈ lw_ok := (lw_okof 1991 qw_1991 rfl)
theorem wd_X13_planDeed : yX13_planDeed.cls ≠ "java/lang/invoke/MethodHandle" ∧ yX13_planDeed.cls ≠ "java/lang/invoke/VarHandle" ∧ (parseMethodDescriptor yX13_planDeed.desc).map (fun d => d.parameters.length) = some 0 := ⟨pn_KindGridsModel.1, pn_KindGridsModel.2, pd_11⟩
theorem wi_X13_planDeed : Cond.instanceMethod yX13_planDeed ∈ lw_ok := (lw_okof 1990 qw_1990 rfl)
theorem ws_X13_planDeed : Cond.selects yX13_planDeed.cls yX13_planDeed yX13_planDeed ∈ lw_ok := (lw_okof 88 qw_88 rfl)
theorem kRX13_525 : dnLV RX13 525 0 11 yX13_planDeed cX13_planDeed 4 (some .int) := ⟨(lw_okof 1988 qw_1988 rfl), wi_X13_planDeed, ws_X13_planDeed, wn_KindGridsModel, wc_X13_planDeed, wd_X13_planDeed, by decide, _, rfl, rfl⟩
theorem wc_X13_isTaken : Cond.code yX13_isTaken cX13_isTaken 2 (some .boolean) ∈ lw_ok := (lw_okof 2050 qw_2050 rfl)
theorem wd_X13_isTaken : yX13_isTaken.cls ≠ "java/lang/invoke/MethodHandle" ∧ yX13_isTaken.cls ≠ "java/lang/invoke/VarHandle" ∧ (parseMethodDescriptor yX13_isTaken.desc).map (fun d => d.parameters.length) = some 2 := ⟨pn_KindGridsModel.1, pn_KindGridsModel.2, pd_14⟩
theorem wt_X13_isTaken : Cond.static yX13_isTaken ∈ lw_ok := (lw_okof 2049 qw_2049 rfl)
theorem kRX13_528 : dnLS RX13 528 2 yX13_isTaken cX13_isTaken 2 (some .boolean) := ⟨(lw_okof 2048 qw_2048 rfl), wt_X13_isTaken, wn_KindGridsModel, wc_X13_isTaken, wd_X13_isTaken⟩
theorem wc_X13_leftSet : Cond.code yX13_leftSet cX13_leftSet 5 (some .int) ∈ lw_ok := (lw_okof 2066 qw_2066 rfl)
theorem wd_X13_leftSet : yX13_leftSet.cls ≠ "java/lang/invoke/MethodHandle" ∧ yX13_leftSet.cls ≠ "java/lang/invoke/VarHandle" ∧ (parseMethodDescriptor yX13_leftSet.desc).map (fun d => d.parameters.length) = some 0 := ⟨pn_KindGridsModel.1, pn_KindGridsModel.2, pd_11⟩
theorem wi_X13_leftSet : Cond.instanceMethod yX13_leftSet ∈ lw_ok := (lw_okof 2065 qw_2065 rfl)
theorem ws_X13_leftSet : Cond.selects yX13_leftSet.cls yX13_leftSet yX13_leftSet ∈ lw_ok := (lw_okof 97 qw_97 rfl)
theorem kRX13_534 : dnLV RX13 534 0 11 yX13_leftSet cX13_leftSet 5 (some .int) := ⟨(lw_okof 2063 qw_2063 rfl), wi_X13_leftSet, ws_X13_leftSet, wn_KindGridsModel, wc_X13_leftSet, wd_X13_leftSet, by decide, _, rfl, rfl⟩
theorem wc_X13_holder : Cond.code yX13_holder cX13_holder 3 (some .int) ∈ lw_ok := (lw_okof 2102 qw_2102 rfl)
theorem wd_X13_holder : yX13_holder.cls ≠ "java/lang/invoke/MethodHandle" ∧ yX13_holder.cls ≠ "java/lang/invoke/VarHandle" ∧ (parseMethodDescriptor yX13_holder.desc).map (fun d => d.parameters.length) = some 1 := ⟨pn_KindGridsModel.1, pn_KindGridsModel.2, pd_4⟩
theorem wi_X13_holder : Cond.instanceMethod yX13_holder ∈ lw_ok := (lw_okof 2101 qw_2101 rfl)
theorem ws_X13_holder : Cond.selects yX13_holder.cls yX13_holder yX13_holder ∈ lw_ok := (lw_okof 100 qw_100 rfl)
theorem kRX13_537 : dnLV RX13 537 1 11 yX13_holder cX13_holder 3 (some .int) := ⟨(lw_okof 2099 qw_2099 rfl), wi_X13_holder, ws_X13_holder, wn_KindGridsModel, wc_X13_holder, wd_X13_holder, by decide, _, rfl, rfl⟩
theorem wc_X13_nothings : Cond.code yX13_nothings cX13_nothings 4 (some .int) ∈ lw_ok := (lw_okof 2106 qw_2106 rfl)
theorem wd_X13_nothings : yX13_nothings.cls ≠ "java/lang/invoke/MethodHandle" ∧ yX13_nothings.cls ≠ "java/lang/invoke/VarHandle" ∧ (parseMethodDescriptor yX13_nothings.desc).map (fun d => d.parameters.length) = some 1 := ⟨pn_KindGridsModel.1, pn_KindGridsModel.2, pd_4⟩
theorem wi_X13_nothings : Cond.instanceMethod yX13_nothings ∈ lw_ok := (lw_okof 2105 qw_2105 rfl)
theorem ws_X13_nothings : Cond.selects yX13_nothings.cls yX13_nothings yX13_nothings ∈ lw_ok := (lw_okof 101 qw_101 rfl)
theorem kRX13_540 : dnLV RX13 540 1 11 yX13_nothings cX13_nothings 4 (some .int) := ⟨(lw_okof 2103 qw_2103 rfl), wi_X13_nothings, ws_X13_nothings, wn_KindGridsModel, wc_X13_nothings, wd_X13_nothings, by decide, _, rfl, rfl⟩
theorem wc_X13_placesWith : Cond.code yX13_placesWith cX13_placesWith 6 (some .int) ∈ lw_ok := (lw_okof 2094 qw_2094 rfl)
theorem wd_X13_placesWith : yX13_placesWith.cls ≠ "java/lang/invoke/MethodHandle" ∧ yX13_placesWith.cls ≠ "java/lang/invoke/VarHandle" ∧ (parseMethodDescriptor yX13_placesWith.desc).map (fun d => d.parameters.length) = some 2 := ⟨pn_KindGridsModel.1, pn_KindGridsModel.2, pd_3⟩
theorem wi_X13_placesWith : Cond.instanceMethod yX13_placesWith ∈ lw_ok := (lw_okof 2093 qw_2093 rfl)
theorem ws_X13_placesWith : Cond.selects yX13_placesWith.cls yX13_placesWith yX13_placesWith ∈ lw_ok := (lw_okof 98 qw_98 rfl)
theorem kRX13_543 : dnLV RX13 543 2 11 yX13_placesWith cX13_placesWith 6 (some .int) := ⟨(lw_okof 2091 qw_2091 rfl), wi_X13_placesWith, ws_X13_placesWith, wn_KindGridsModel, wc_X13_placesWith, wd_X13_placesWith, by decide, _, rfl, rfl⟩
theorem wc_X13_ofRows : Cond.code yX13_ofRows cX13_ofRows 4 (some .int) ∈ lw_ok := (lw_okof 2098 qw_2098 rfl)
theorem wd_X13_ofRows : yX13_ofRows.cls ≠ "java/lang/invoke/MethodHandle" ∧ yX13_ofRows.cls ≠ "java/lang/invoke/VarHandle" ∧ (parseMethodDescriptor yX13_ofRows.desc).map (fun d => d.parameters.length) = some 1 := ⟨pn_KindGridsModel.1, pn_KindGridsModel.2, pd_4⟩
theorem wi_X13_ofRows : Cond.instanceMethod yX13_ofRows ∈ lw_ok := (lw_okof 2097 qw_2097 rfl)
theorem ws_X13_ofRows : Cond.selects yX13_ofRows.cls yX13_ofRows yX13_ofRows ∈ lw_ok := (lw_okof 99 qw_99 rfl)
theorem kRX13_546 : dnLV RX13 546 1 11 yX13_ofRows cX13_ofRows 4 (some .int) := ⟨(lw_okof 2095 qw_2095 rfl), wi_X13_ofRows, ws_X13_ofRows, wn_KindGridsModel, wc_X13_ofRows, wd_X13_ofRows, by decide, _, rfl, rfl⟩
theorem kRX13_549 : Cond.constantLong RX13 549 (31 : Int64) ∈ lw_ok := (lw_okof 2116 qw_2116 rfl)
theorem kRX13_551 : Cond.constantLong RX13 551 (17 : Int64) ∈ lw_ok := (lw_okof 2115 qw_2115 rfl)
theorem wc_X13_rowDigest : Cond.code yX13_rowDigest cX13_rowDigest 8 (some .long) ∈ lw_ok := (lw_okof 2120 qw_2120 rfl)
theorem pd_64 : (parseMethodDescriptor "(JI)J").map (fun d => d.parameters.length) = some 2 := by decide +kernel
theorem wd_X13_rowDigest : yX13_rowDigest.cls ≠ "java/lang/invoke/MethodHandle" ∧ yX13_rowDigest.cls ≠ "java/lang/invoke/VarHandle" ∧ (parseMethodDescriptor yX13_rowDigest.desc).map (fun d => d.parameters.length) = some 2 := ⟨pn_KindGridsModel.1, pn_KindGridsModel.2, pd_64⟩
theorem wi_X13_rowDigest : Cond.instanceMethod yX13_rowDigest ∈ lw_ok := (lw_okof 2119 qw_2119 rfl)
theorem ws_X13_rowDigest : Cond.selects yX13_rowDigest.cls yX13_rowDigest yX13_rowDigest ∈ lw_ok := (lw_okof 102 qw_102 rfl)
theorem kRX13_553 : dnLV RX13 553 2 11 yX13_rowDigest cX13_rowDigest 8 (some .long) := ⟨(lw_okof 2117 qw_2117 rfl), wi_X13_rowDigest, ws_X13_rowDigest, wn_KindGridsModel, wc_X13_rowDigest, wd_X13_rowDigest, by decide, _, rfl, rfl⟩
theorem kRJ6_265 : Cond.constant RJ6 265 (1431655765 : Int32) ∈ lw_ok := (lw_okof 1217 qw_1217 rfl)
theorem kRJ6_266 : Cond.constant RJ6 266 (858993459 : Int32) ∈ lw_ok := (lw_okof 1218 qw_1218 rfl)
theorem kRJ6_267 : Cond.constant RJ6 267 (252645135 : Int32) ∈ lw_ok := (lw_okof 1219 qw_1219 rfl)
