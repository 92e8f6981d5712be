theorem ok_291_0 : BkOK mi i_291 (bpf P_291) 0 (B_291.getD 0 bk0) := ⟨4, ⟨3, s_new (C := RX5) (T := TX5) (N := 12) tyX5 tyX5_ok dL_law_0 rfl nfX5_ok rfl rfl wt_22 wt_23 wt_1 uw_X5, ⟨1, s_dup dL_law_3, rfl⟩⟩, t_ci rfl mi_92 mok_92 rfl (fun q As rest h hA hr => call_I dL_law_4 mok_92 rfl ⟨by decide, by decide⟩ np_92 rfl rfl wt_24 wt_25 hA hr)⟩
theorem ok_291_1 : BkOK mi i_291 (bpf P_291) 1 (B_291.getD 1 bk0) := ⟨12, ⟨1, s_astore_n dL_law_7 rfl (by decide), ⟨3, s_new (C := RX6) (T := TX6) (N := 30) tyX6 tyX6_ok dL_law_8 rfl nfX6_ok rfl rfl wt_1134 wt_1135 wt_8 uw_X6, ⟨1, s_dup dL_law_11, rfl⟩⟩⟩, t_ci rfl mi_151 mok_151 rfl (fun q As rest h hA hr => call_I dL_law_12 mok_151 rfl ⟨by decide, by decide⟩ np_151 rfl rfl wt_1136 wt_1137 hA hr)⟩
theorem ok_291_2 : BkOK mi i_291 (bpf P_291) 2 (B_291.getD 2 bk0) := ⟨28, ⟨1, s_astore_n dL_law_15 rfl (by decide), ⟨1, s_iconst dL_law_16 rfl, ⟨2, s_newa_l dL_law_17 wt_168, ⟨1, s_astore_n dL_law_19 rfl (by decide), ⟨1, s_iconst dL_law_20 rfl, ⟨2, s_newa_d dL_law_21 wt_1690, ⟨2, s_astore dL_law_23 (by decide), ⟨1, s_iconst dL_law_25 rfl, ⟨2, s_istore dL_law_26 (by decide), rfl⟩⟩⟩⟩⟩⟩⟩⟩⟩, t_fall rfl⟩
theorem ok_291_3 : BkOK mi i_291 (bpf P_291) 3 (B_291.getD 3 bk0) := ⟨35, ⟨2, s_iload dL_law_28, ⟨1, s_aload_n dL_law_30 rfl, ⟨1, s_alen dL_law_31, ⟨2, s_bipush dL_law_32 rfl, ⟨1, s_isub dL_law_34, rfl⟩⟩⟩⟩⟩, t_gt dL_law_35 (by decide) rfl⟩
theorem ok_291_4 : BkOK mi i_291 (bpf P_291) 4 (B_291.getD 4 bk0) := ⟨45, ⟨1, s_aload_n dL_law_38 rfl, ⟨2, s_iload dL_law_39, ⟨1, s_iald dL_law_41, ⟨2, s_bipush dL_law_42 rfl, ⟨1, s_iand dL_law_44, rfl⟩⟩⟩⟩⟩, t_table dL_law_45 (by decide) (by decide) ⟨by decide, by decide⟩ (by decide +kernel)⟩
theorem ok_291_5 : BkOK mi i_291 (bpf P_291) 5 (B_291.getD 5 bk0) := ⟨244, ⟨1, s_aload_n dL_law_212 rfl, ⟨1, s_aload_n dL_law_213 rfl, ⟨2, s_iload dL_law_214, ⟨1, s_iconst dL_law_216 rfl, ⟨1, s_iadd dL_law_217, ⟨1, s_iald dL_law_218, ⟨1, s_aload_n dL_law_219 rfl, ⟨2, s_iload dL_law_220, ⟨1, s_iconst dL_law_222 rfl, ⟨1, s_iadd dL_law_223, ⟨1, s_iald dL_law_224, ⟨1, s_aload_n dL_law_225 rfl, ⟨2, s_iload dL_law_226, ⟨1, s_iconst dL_law_228 rfl, ⟨1, s_iadd dL_law_229, ⟨1, s_iald dL_law_230, ⟨1, s_aload_n dL_law_231 rfl, ⟨2, s_iload dL_law_232, ⟨1, s_iconst dL_law_234 rfl, ⟨1, s_iadd dL_law_235, ⟨1, s_iald dL_law_236, ⟨1, s_aload_n dL_law_237 rfl, ⟨2, s_iload dL_law_238, ⟨1, s_iconst dL_law_240 rfl, ⟨1, s_iadd dL_law_241, ⟨1, s_iald dL_law_242, ⟨1, s_aload_n dL_law_243 rfl, rfl⟩⟩⟩⟩⟩⟩⟩⟩⟩⟩⟩⟩⟩⟩⟩⟩⟩⟩⟩⟩⟩⟩⟩⟩⟩⟩⟩, t_cs rfl mi_263 mok_263 rfl (fun As rest h hA hr => call_SX dL_law_244 mok_263 (by decide) ⟨by decide, by decide⟩ np_263 wt_684 wt_685 hA hr)⟩
theorem ok_291_6 : BkOK mi i_291 (bpf P_291) 6 (B_291.getD 6 bk0) := ⟨280, ⟨2, s_istore dL_law_247 (by decide), ⟨1, s_aload_n dL_law_249 rfl, ⟨1, s_aload_n dL_law_250 rfl, ⟨2, s_iload dL_law_251, ⟨1, s_iconst dL_law_253 rfl, ⟨1, s_iadd dL_law_254, ⟨1, s_iald dL_law_255, ⟨1, s_aload_n dL_law_256 rfl, ⟨2, s_iload dL_law_257, ⟨1, s_iconst dL_law_259 rfl, ⟨1, s_iadd dL_law_260, ⟨1, s_iald dL_law_261, ⟨1, s_aload_n dL_law_262 rfl, ⟨2, s_iload dL_law_263, ⟨1, s_iconst dL_law_265 rfl, ⟨1, s_iadd dL_law_266, ⟨1, s_iald dL_law_267, ⟨1, s_aload_n dL_law_268 rfl, ⟨2, s_iload dL_law_269, ⟨1, s_iconst dL_law_271 rfl, ⟨1, s_iadd dL_law_272, ⟨1, s_iald dL_law_273, ⟨1, s_aload_n dL_law_274 rfl, ⟨2, s_iload dL_law_275, ⟨1, s_iconst dL_law_277 rfl, ⟨1, s_iadd dL_law_278, ⟨1, s_iald dL_law_279, rfl⟩⟩⟩⟩⟩⟩⟩⟩⟩⟩⟩⟩⟩⟩⟩⟩⟩⟩⟩⟩⟩⟩⟩⟩⟩⟩⟩, t_cv rfl mi_164 mok_164 rfl (fun _ => ⟨rfl, by decide +kernel⟩) (fun hs' e => by cases e; intro E n b h; cases h) (fun q fs As rest h hp hA hr => (call_V (i := i_291) (j := i_164) (C := RX6) (T := TX6) (N := 30) dL_law_280 mok_164 rfl ⟨by decide, by decide⟩ np_164 rfl rfl wt_1279 wt_1280 wt_1281 hp hA hr rfl).thr (fun _ => True.intro))⟩
theorem ok_291_7 : BkOK mi i_291 (bpf P_291) 7 (B_291.getD 7 bk0) := ⟨286, ⟨2, s_istore dL_law_283 (by decide), ⟨1, s_aload_n dL_law_285 rfl, rfl⟩⟩, t_cv rfl mi_156 mok_156 rfl (fun _ => ⟨rfl, by decide +kernel⟩) (fun hs' e => by cases e; intro E n b h; cases h) (fun q fs As rest h hp hA hr => (call_V (i := i_291) (j := i_156) (C := RX6) (T := TX6) (N := 30) dL_law_286 mok_156 rfl ⟨by decide, by decide⟩ np_156 rfl rfl wt_1249 wt_1250 wt_1251 hp hA hr rfl).thr (fun _ => True.intro))⟩
theorem ok_291_8 : BkOK mi i_291 (bpf P_291) 8 (B_291.getD 8 bk0) := ⟨291, ⟨2, s_iload dL_law_289, rfl⟩, t_eq dL_law_291 (by decide) rfl⟩
theorem ok_291_9 : BkOK mi i_291 (bpf P_291) 9 (B_291.getD 9 bk0) := ⟨295, ⟨1, s_iconst dL_law_294 rfl, rfl⟩, t_retZ dL_law_295 rfl⟩
theorem ok_291_10 : BkOK mi i_291 (bpf P_291) 10 (B_291.getD 10 bk0) := ⟨298, ⟨2, s_iload dL_law_296, rfl⟩, t_ne0 dL_law_298 (by decide) rfl⟩
theorem ok_291_11 : BkOK mi i_291 (bpf P_291) 11 (B_291.getD 11 bk0) := ⟨308, ⟨1, s_aload_n dL_law_301 rfl, ⟨1, s_iconst dL_law_302 rfl, ⟨1, s_laload dL_law_303, ⟨2, s_iload dL_law_304, ⟨1, s_i2l dL_law_306, ⟨1, s_lcmp dL_law_307, rfl⟩⟩⟩⟩⟩⟩, t_eq0 dL_law_308 (by decide) rfl⟩
theorem ok_291_12 : BkOK mi i_291 (bpf P_291) 12 (B_291.getD 12 bk0) := ⟨312, ⟨1, s_iconst dL_law_311 rfl, rfl⟩, t_retZ dL_law_312 rfl⟩
theorem ok_291_13 : BkOK mi i_291 (bpf P_291) 13 (B_291.getD 13 bk0) := ⟨313, rfl, t_go dL_law_313 (by decide)⟩
theorem ok_291_14 : BkOK mi i_291 (bpf P_291) 14 (B_291.getD 14 bk0) := ⟨317, ⟨1, s_aload_n dL_law_316 rfl, rfl⟩, t_cv rfl mi_94 mok_94 rfl (fun _ => ⟨rfl, by decide +kernel⟩) (fun hs' e => by cases e; intro E n b h; cases h) (fun q fs As rest h hp hA hr => (call_V (i := i_291) (j := i_94) (C := RX5) (T := TX5) (N := 12) dL_law_317 mok_94 rfl ⟨by decide, by decide⟩ np_94 rfl rfl wt_260 wt_261 wt_262 hp hA hr rfl).thr (fun _ => True.intro))⟩
theorem ok_291_15 : BkOK mi i_291 (bpf P_291) 15 (B_291.getD 15 bk0) := ⟨321, ⟨1, s_aload_n dL_law_320 rfl, rfl⟩, t_cv rfl mi_180 mok_180 rfl (fun _ => ⟨rfl, by decide +kernel⟩) (fun hs' e => by cases e; intro E n b h; cases h) (fun q fs As rest h hp hA hr => (call_V (i := i_291) (j := i_180) (C := RX6) (T := TX6) (N := 30) dL_law_321 mok_180 rfl ⟨by decide, by decide⟩ np_180 rfl rfl wt_1286 wt_1287 wt_1288 hp hA hr rfl).thr (fun _ => True.intro))⟩
theorem ok_291_16 : BkOK mi i_291 (bpf P_291) 16 (B_291.getD 16 bk0) := ⟨324, rfl, t_eq dL_law_324 (by decide) rfl⟩
theorem ok_291_17 : BkOK mi i_291 (bpf P_291) 17 (B_291.getD 17 bk0) := ⟨328, ⟨1, s_iconst dL_law_327 rfl, rfl⟩, t_retZ dL_law_328 rfl⟩
theorem ok_291_18 : BkOK mi i_291 (bpf P_291) 18 (B_291.getD 18 bk0) := ⟨330, ⟨1, s_aload_n dL_law_329 rfl, rfl⟩, t_cv rfl mi_95 mok_95 rfl (fun _ => ⟨rfl, by decide +kernel⟩) (fun hs' e => by cases e; intro E n b h; cases h) (fun q fs As rest h hp hA hr => (call_V (i := i_291) (j := i_95) (C := RX5) (T := TX5) (N := 12) dL_law_330 mok_95 rfl ⟨by decide, by decide⟩ np_95 rfl rfl wt_471 wt_472 wt_473 hp hA hr rfl).thr (fun _ => True.intro))⟩
theorem ok_291_19 : BkOK mi i_291 (bpf P_291) 19 (B_291.getD 19 bk0) := ⟨334, ⟨1, s_aload_n dL_law_333 rfl, rfl⟩, t_cv rfl mi_181 mok_181 rfl (fun _ => ⟨rfl, by decide +kernel⟩) (fun hs' e => by cases e; intro E n b h; cases h) (fun q fs As rest h hp hA hr => (call_V (i := i_291) (j := i_181) (C := RX6) (T := TX6) (N := 30) dL_law_334 mok_181 rfl ⟨by decide, by decide⟩ np_181 rfl rfl wt_1369 wt_1370 wt_1371 hp hA hr rfl).thr (fun _ => True.intro))⟩
theorem ok_291_20 : BkOK mi i_291 (bpf P_291) 20 (B_291.getD 20 bk0) := ⟨337, rfl, t_eq dL_law_337 (by decide) rfl⟩
theorem ok_291_21 : BkOK mi i_291 (bpf P_291) 21 (B_291.getD 21 bk0) := ⟨341, ⟨1, s_iconst dL_law_340 rfl, rfl⟩, t_retZ dL_law_341 rfl⟩
theorem ok_291_22 : BkOK mi i_291 (bpf P_291) 22 (B_291.getD 22 bk0) := ⟨350, ⟨1, s_aload_n dL_law_342 rfl, ⟨1, s_aload_n dL_law_343 rfl, ⟨2, s_iload dL_law_344, ⟨1, s_iconst dL_law_346 rfl, ⟨1, s_iadd dL_law_347, ⟨1, s_iald dL_law_348, ⟨1, s_aload_n dL_law_349 rfl, rfl⟩⟩⟩⟩⟩⟩⟩, t_cs rfl mi_264 mok_264 rfl (fun As rest h hA hr => call_SX dL_law_350 mok_264 (by decide) ⟨by decide, by decide⟩ np_264 wt_763 wt_764 hA hr)⟩
theorem ok_291_23 : BkOK mi i_291 (bpf P_291) 23 (B_291.getD 23 bk0) := ⟨362, ⟨2, s_istore dL_law_353 (by decide), ⟨1, s_aload_n dL_law_355 rfl, ⟨1, s_aload_n dL_law_356 rfl, ⟨2, s_iload dL_law_357, ⟨1, s_iconst dL_law_359 rfl, ⟨1, s_iadd dL_law_360, ⟨1, s_iald dL_law_361, rfl⟩⟩⟩⟩⟩⟩⟩, t_cv rfl mi_219 mok_219 rfl (fun _ => ⟨rfl, by decide +kernel⟩) (fun hs' e => by cases e; intro E n b h; cases h) (fun q fs As rest h hp hA hr => (call_V (i := i_291) (j := i_219) (C := RX6) (T := TX6) (N := 30) dL_law_362 mok_219 rfl ⟨by decide, by decide⟩ np_219 rfl rfl wt_1373 wt_1374 wt_1375 hp hA hr rfl).thr (fun _ => True.intro))⟩
theorem ok_291_24 : BkOK mi i_291 (bpf P_291) 24 (B_291.getD 24 bk0) := ⟨368, ⟨2, s_istore dL_law_365 (by decide), ⟨1, s_aload_n dL_law_367 rfl, rfl⟩⟩, t_cv rfl mi_156 mok_156 rfl (fun _ => ⟨rfl, by decide +kernel⟩) (fun hs' e => by cases e; intro E n b h; cases h) (fun q fs As rest h hp hA hr => (call_V (i := i_291) (j := i_156) (C := RX6) (T := TX6) (N := 30) dL_law_368 mok_156 rfl ⟨by decide, by decide⟩ np_156 rfl rfl wt_1249 wt_1250 wt_1251 hp hA hr rfl).thr (fun _ => True.intro))⟩
theorem ok_291_25 : BkOK mi i_291 (bpf P_291) 25 (B_291.getD 25 bk0) := ⟨373, ⟨2, s_iload dL_law_371, rfl⟩, t_eq dL_law_373 (by decide) rfl⟩
theorem ok_291_26 : BkOK mi i_291 (bpf P_291) 26 (B_291.getD 26 bk0) := ⟨377, ⟨1, s_iconst dL_law_376 rfl, rfl⟩, t_retZ dL_law_377 rfl⟩
theorem ok_291_27 : BkOK mi i_291 (bpf P_291) 27 (B_291.getD 27 bk0) := ⟨380, ⟨2, s_iload dL_law_378, rfl⟩, t_ne0 dL_law_380 (by decide) rfl⟩
theorem ok_291_28 : BkOK mi i_291 (bpf P_291) 28 (B_291.getD 28 bk0) := ⟨390, ⟨1, s_aload_n dL_law_383 rfl, ⟨1, s_iconst dL_law_384 rfl, ⟨1, s_laload dL_law_385, ⟨2, s_iload dL_law_386, ⟨1, s_i2l dL_law_388, ⟨1, s_lcmp dL_law_389, rfl⟩⟩⟩⟩⟩⟩, t_eq0 dL_law_390 (by decide) rfl⟩
theorem ok_291_29 : BkOK mi i_291 (bpf P_291) 29 (B_291.getD 29 bk0) := ⟨394, ⟨1, s_iconst dL_law_393 rfl, rfl⟩, t_retZ dL_law_394 rfl⟩
theorem ok_291_30 : BkOK mi i_291 (bpf P_291) 30 (B_291.getD 30 bk0) := ⟨395, rfl, t_go dL_law_395 (by decide)⟩
theorem ok_291_31 : BkOK mi i_291 (bpf P_291) 31 (B_291.getD 31 bk0) := ⟨412, ⟨1, s_aload_n dL_law_398 rfl, ⟨1, s_aload_n dL_law_399 rfl, ⟨2, s_iload dL_law_400, ⟨1, s_iconst dL_law_402 rfl, ⟨1, s_iadd dL_law_403, ⟨1, s_iald dL_law_404, ⟨1, s_aload_n dL_law_405 rfl, ⟨2, s_iload dL_law_406, ⟨1, s_iconst dL_law_408 rfl, ⟨1, s_iadd dL_law_409, ⟨1, s_iald dL_law_410, ⟨1, s_aload_n dL_law_411 rfl, rfl⟩⟩⟩⟩⟩⟩⟩⟩⟩⟩⟩⟩, t_cs rfl mi_265 mok_265 rfl (fun As rest h hA hr => call_SX dL_law_412 mok_265 (by decide) ⟨by decide, by decide⟩ np_265 wt_807 wt_808 hA hr)⟩
theorem ok_291_32 : BkOK mi i_291 (bpf P_291) 32 (B_291.getD 32 bk0) := ⟨430, ⟨2, s_istore dL_law_415 (by decide), ⟨1, s_aload_n dL_law_417 rfl, ⟨1, s_aload_n dL_law_418 rfl, ⟨2, s_iload dL_law_419, ⟨1, s_iconst dL_law_421 rfl, ⟨1, s_iadd dL_law_422, ⟨1, s_iald dL_law_423, ⟨1, s_aload_n dL_law_424 rfl, ⟨2, s_iload dL_law_425, ⟨1, s_iconst dL_law_427 rfl, ⟨1, s_iadd dL_law_428, ⟨1, s_iald dL_law_429, rfl⟩⟩⟩⟩⟩⟩⟩⟩⟩⟩⟩⟩, t_cv rfl mi_220 mok_220 rfl (fun _ => ⟨rfl, by decide +kernel⟩) (fun hs' e => by cases e; intro E n b h; cases h) (fun q fs As rest h hp hA hr => (call_V (i := i_291) (j := i_220) (C := RX6) (T := TX6) (N := 30) dL_law_430 mok_220 rfl ⟨by decide, by decide⟩ np_220 rfl rfl wt_1416 wt_1417 wt_1418 hp hA hr rfl).thr (fun _ => True.intro))⟩
theorem ok_291_33 : BkOK mi i_291 (bpf P_291) 33 (B_291.getD 33 bk0) := ⟨436, ⟨2, s_istore dL_law_433 (by decide), ⟨1, s_aload_n dL_law_435 rfl, rfl⟩⟩, t_cv rfl mi_156 mok_156 rfl (fun _ => ⟨rfl, by decide +kernel⟩) (fun hs' e => by cases e; intro E n b h; cases h) (fun q fs As rest h hp hA hr => (call_V (i := i_291) (j := i_156) (C := RX6) (T := TX6) (N := 30) dL_law_436 mok_156 rfl ⟨by decide, by decide⟩ np_156 rfl rfl wt_1249 wt_1250 wt_1251 hp hA hr rfl).thr (fun _ => True.intro))⟩
theorem ok_291_34 : BkOK mi i_291 (bpf P_291) 34 (B_291.getD 34 bk0) := ⟨441, ⟨2, s_iload dL_law_439, rfl⟩, t_eq dL_law_441 (by decide) rfl⟩
theorem ok_291_35 : BkOK mi i_291 (bpf P_291) 35 (B_291.getD 35 bk0) := ⟨445, ⟨1, s_iconst dL_law_444 rfl, rfl⟩, t_retZ dL_law_445 rfl⟩
theorem ok_291_36 : BkOK mi i_291 (bpf P_291) 36 (B_291.getD 36 bk0) := ⟨448, ⟨2, s_iload dL_law_446, rfl⟩, t_ne0 dL_law_448 (by decide) rfl⟩
theorem ok_291_37 : BkOK mi i_291 (bpf P_291) 37 (B_291.getD 37 bk0) := ⟨458, ⟨1, s_aload_n dL_law_451 rfl, ⟨1, s_iconst dL_law_452 rfl, ⟨1, s_laload dL_law_453, ⟨2, s_iload dL_law_454, ⟨1, s_i2l dL_law_456, ⟨1, s_lcmp dL_law_457, rfl⟩⟩⟩⟩⟩⟩, t_eq0 dL_law_458 (by decide) rfl⟩
theorem ok_291_38 : BkOK mi i_291 (bpf P_291) 38 (B_291.getD 38 bk0) := ⟨462, ⟨1, s_iconst dL_law_461 rfl, rfl⟩, t_retZ dL_law_462 rfl⟩
theorem ok_291_39 : BkOK mi i_291 (bpf P_291) 39 (B_291.getD 39 bk0) := ⟨463, rfl, t_go dL_law_463 (by decide)⟩
theorem ok_291_40 : BkOK mi i_291 (bpf P_291) 40 (B_291.getD 40 bk0) := ⟨486, ⟨1, s_aload_n dL_law_466 rfl, ⟨1, s_aload_n dL_law_467 rfl, ⟨2, s_iload dL_law_468, ⟨1, s_iconst dL_law_470 rfl, ⟨1, s_iadd dL_law_471, ⟨1, s_iald dL_law_472, ⟨1, s_aload_n dL_law_473 rfl, ⟨2, s_iload dL_law_474, ⟨1, s_iconst dL_law_476 rfl, ⟨1, s_iadd dL_law_477, ⟨1, s_iald dL_law_478, ⟨1, s_aload_n dL_law_479 rfl, ⟨2, s_iload dL_law_480, ⟨1, s_iconst dL_law_482 rfl, ⟨1, s_iadd dL_law_483, ⟨1, s_iald dL_law_484, ⟨1, s_aload_n dL_law_485 rfl, rfl⟩⟩⟩⟩⟩⟩⟩⟩⟩⟩⟩⟩⟩⟩⟩⟩⟩, t_cs rfl mi_266 mok_266 rfl (fun As rest h hA hr => call_SX dL_law_486 mok_266 (by decide) ⟨by decide, by decide⟩ np_266 wt_835 wt_836 hA hr)⟩
theorem ok_291_41 : BkOK mi i_291 (bpf P_291) 41 (B_291.getD 41 bk0) := ⟨510, ⟨2, s_istore dL_law_489 (by decide), ⟨1, s_aload_n dL_law_491 rfl, ⟨1, s_aload_n dL_law_492 rfl, ⟨2, s_iload dL_law_493, ⟨1, s_iconst dL_law_495 rfl, ⟨1, s_iadd dL_law_496, ⟨1, s_iald dL_law_497, ⟨1, s_aload_n dL_law_498 rfl, ⟨2, s_iload dL_law_499, ⟨1, s_iconst dL_law_501 rfl, ⟨1, s_iadd dL_law_502, ⟨1, s_iald dL_law_503, ⟨1, s_aload_n dL_law_504 rfl, ⟨2, s_iload dL_law_505, ⟨1, s_iconst dL_law_507 rfl, ⟨1, s_iadd dL_law_508, ⟨1, s_iald dL_law_509, rfl⟩⟩⟩⟩⟩⟩⟩⟩⟩⟩⟩⟩⟩⟩⟩⟩⟩, t_cv rfl mi_221 mok_221 rfl (fun _ => ⟨rfl, by decide +kernel⟩) (fun hs' e => by cases e; intro E n b h; cases h) (fun q fs As rest h hp hA hr => (call_V (i := i_291) (j := i_221) (C := RX6) (T := TX6) (N := 30) dL_law_510 mok_221 rfl ⟨by decide, by decide⟩ np_221 rfl rfl wt_1455 wt_1456 wt_1457 hp hA hr rfl).thr (fun _ => True.intro))⟩
theorem ok_291_42 : BkOK mi i_291 (bpf P_291) 42 (B_291.getD 42 bk0) := ⟨516, ⟨2, s_istore dL_law_513 (by decide), ⟨1, s_aload_n dL_law_515 rfl, rfl⟩⟩, t_cv rfl mi_156 mok_156 rfl (fun _ => ⟨rfl, by decide +kernel⟩) (fun hs' e => by cases e; intro E n b h; cases h) (fun q fs As rest h hp hA hr => (call_V (i := i_291) (j := i_156) (C := RX6) (T := TX6) (N := 30) dL_law_516 mok_156 rfl ⟨by decide, by decide⟩ np_156 rfl rfl wt_1249 wt_1250 wt_1251 hp hA hr rfl).thr (fun _ => True.intro))⟩
theorem ok_291_43 : BkOK mi i_291 (bpf P_291) 43 (B_291.getD 43 bk0) := ⟨521, ⟨2, s_iload dL_law_519, rfl⟩, t_eq dL_law_521 (by decide) rfl⟩
theorem ok_291_44 : BkOK mi i_291 (bpf P_291) 44 (B_291.getD 44 bk0) := ⟨525, ⟨1, s_iconst dL_law_524 rfl, rfl⟩, t_retZ dL_law_525 rfl⟩
theorem ok_291_45 : BkOK mi i_291 (bpf P_291) 45 (B_291.getD 45 bk0) := ⟨528, ⟨2, s_iload dL_law_526, rfl⟩, t_ne0 dL_law_528 (by decide) rfl⟩
theorem ok_291_46 : BkOK mi i_291 (bpf P_291) 46 (B_291.getD 46 bk0) := ⟨538, ⟨1, s_aload_n dL_law_531 rfl, ⟨1, s_iconst dL_law_532 rfl, ⟨1, s_laload dL_law_533, ⟨2, s_iload dL_law_534, ⟨1, s_i2l dL_law_536, ⟨1, s_lcmp dL_law_537, rfl⟩⟩⟩⟩⟩⟩, t_eq0 dL_law_538 (by decide) rfl⟩
theorem ok_291_47 : BkOK mi i_291 (bpf P_291) 47 (B_291.getD 47 bk0) := ⟨542, ⟨1, s_iconst dL_law_541 rfl, rfl⟩, t_retZ dL_law_542 rfl⟩
theorem ok_291_48 : BkOK mi i_291 (bpf P_291) 48 (B_291.getD 48 bk0) := ⟨543, rfl, t_go dL_law_543 (by decide)⟩
theorem ok_291_49 : BkOK mi i_291 (bpf P_291) 49 (B_291.getD 49 bk0) := ⟨554, ⟨1, s_aload_n dL_law_546 rfl, ⟨1, s_aload_n dL_law_547 rfl, ⟨2, s_iload dL_law_548, ⟨1, s_iconst dL_law_550 rfl, ⟨1, s_iadd dL_law_551, ⟨1, s_iald dL_law_552, ⟨1, s_aload_n dL_law_553 rfl, rfl⟩⟩⟩⟩⟩⟩⟩, t_cs rfl mi_267 mok_267 rfl (fun As rest h hA hr => call_SX dL_law_554 mok_267 (by decide) ⟨by decide, by decide⟩ np_267 wt_847 wt_848 hA hr)⟩
theorem ok_291_50 : BkOK mi i_291 (bpf P_291) 50 (B_291.getD 50 bk0) := ⟨566, ⟨2, s_istore dL_law_557 (by decide), ⟨1, s_aload_n dL_law_559 rfl, ⟨1, s_aload_n dL_law_560 rfl, ⟨2, s_iload dL_law_561, ⟨1, s_iconst dL_law_563 rfl, ⟨1, s_iadd dL_law_564, ⟨1, s_iald dL_law_565, rfl⟩⟩⟩⟩⟩⟩⟩, t_cv rfl mi_222 mok_222 rfl (fun _ => ⟨rfl, by decide +kernel⟩) (fun hs' e => by cases e; intro E n b h; cases h) (fun q fs As rest h hp hA hr => (call_V (i := i_291) (j := i_222) (C := RX6) (T := TX6) (N := 30) dL_law_566 mok_222 rfl ⟨by decide, by decide⟩ np_222 rfl rfl wt_1463 wt_1464 wt_1465 hp hA hr rfl).thr (fun _ => True.intro))⟩
theorem ok_291_51 : BkOK mi i_291 (bpf P_291) 51 (B_291.getD 51 bk0) := ⟨572, ⟨2, s_istore dL_law_569 (by decide), ⟨1, s_aload_n dL_law_571 rfl, rfl⟩⟩, t_cv rfl mi_156 mok_156 rfl (fun _ => ⟨rfl, by decide +kernel⟩) (fun hs' e => by cases e; intro E n b h; cases h) (fun q fs As rest h hp hA hr => (call_V (i := i_291) (j := i_156) (C := RX6) (T := TX6) (N := 30) dL_law_572 mok_156 rfl ⟨by decide, by decide⟩ np_156 rfl rfl wt_1249 wt_1250 wt_1251 hp hA hr rfl).thr (fun _ => True.intro))⟩
theorem ok_291_52 : BkOK mi i_291 (bpf P_291) 52 (B_291.getD 52 bk0) := ⟨577, ⟨2, s_iload dL_law_575, rfl⟩, t_eq dL_law_577 (by decide) rfl⟩
theorem ok_291_53 : BkOK mi i_291 (bpf P_291) 53 (B_291.getD 53 bk0) := ⟨581, ⟨1, s_iconst dL_law_580 rfl, rfl⟩, t_retZ dL_law_581 rfl⟩
theorem ok_291_54 : BkOK mi i_291 (bpf P_291) 54 (B_291.getD 54 bk0) := ⟨584, ⟨2, s_iload dL_law_582, rfl⟩, t_ne0 dL_law_584 (by decide) rfl⟩
theorem ok_291_55 : BkOK mi i_291 (bpf P_291) 55 (B_291.getD 55 bk0) := ⟨594, ⟨1, s_aload_n dL_law_587 rfl, ⟨1, s_iconst dL_law_588 rfl, ⟨1, s_laload dL_law_589, ⟨2, s_iload dL_law_590, ⟨1, s_i2l dL_law_592, ⟨1, s_lcmp dL_law_593, rfl⟩⟩⟩⟩⟩⟩, t_eq0 dL_law_594 (by decide) rfl⟩
theorem ok_291_56 : BkOK mi i_291 (bpf P_291) 56 (B_291.getD 56 bk0) := ⟨598, ⟨1, s_iconst dL_law_597 rfl, rfl⟩, t_retZ dL_law_598 rfl⟩
theorem ok_291_57 : BkOK mi i_291 (bpf P_291) 57 (B_291.getD 57 bk0) := ⟨599, rfl, t_go dL_law_599 (by decide)⟩
theorem ok_291_58 : BkOK mi i_291 (bpf P_291) 58 (B_291.getD 58 bk0) := ⟨622, ⟨1, s_aload_n dL_law_602 rfl, ⟨1, s_aload_n dL_law_603 rfl, ⟨2, s_iload dL_law_604, ⟨1, s_iconst dL_law_606 rfl, ⟨1, s_iadd dL_law_607, ⟨1, s_iald dL_law_608, ⟨1, s_aload_n dL_law_609 rfl, ⟨2, s_iload dL_law_610, ⟨1, s_iconst dL_law_612 rfl, ⟨1, s_iadd dL_law_613, ⟨1, s_iald dL_law_614, ⟨1, s_aload_n dL_law_615 rfl, ⟨2, s_iload dL_law_616, ⟨1, s_iconst dL_law_618 rfl, ⟨1, s_iadd dL_law_619, ⟨1, s_iald dL_law_620, ⟨1, s_aload_n dL_law_621 rfl, rfl⟩⟩⟩⟩⟩⟩⟩⟩⟩⟩⟩⟩⟩⟩⟩⟩⟩, t_cs rfl mi_268 mok_268 rfl (fun As rest h hA hr => call_SX dL_law_622 mok_268 (by decide) ⟨by decide, by decide⟩ np_268 wt_858 wt_859 hA hr)⟩
theorem ok_291_59 : BkOK mi i_291 (bpf P_291) 59 (B_291.getD 59 bk0) := ⟨646, ⟨2, s_istore dL_law_625 (by decide), ⟨1, s_aload_n dL_law_627 rfl, ⟨1, s_aload_n dL_law_628 rfl, ⟨2, s_iload dL_law_629, ⟨1, s_iconst dL_law_631 rfl, ⟨1, s_iadd dL_law_632, ⟨1, s_iald dL_law_633, ⟨1, s_aload_n dL_law_634 rfl, ⟨2, s_iload dL_law_635, ⟨1, s_iconst dL_law_637 rfl, ⟨1, s_iadd dL_law_638, ⟨1, s_iald dL_law_639, ⟨1, s_aload_n dL_law_640 rfl, ⟨2, s_iload dL_law_641, ⟨1, s_iconst dL_law_643 rfl, ⟨1, s_iadd dL_law_644, ⟨1, s_iald dL_law_645, rfl⟩⟩⟩⟩⟩⟩⟩⟩⟩⟩⟩⟩⟩⟩⟩⟩⟩, t_cv rfl mi_223 mok_223 rfl (fun _ => ⟨rfl, by decide +kernel⟩) (fun hs' e => by cases e; intro E n b h; cases h) (fun q fs As rest h hp hA hr => (call_V (i := i_291) (j := i_223) (C := RX6) (T := TX6) (N := 30) dL_law_646 mok_223 rfl ⟨by decide, by decide⟩ np_223 rfl rfl wt_1467 wt_1468 wt_1469 hp hA hr rfl).thr (fun _ => True.intro))⟩
theorem ok_291_60 : BkOK mi i_291 (bpf P_291) 60 (B_291.getD 60 bk0) := ⟨652, ⟨2, s_istore dL_law_649 (by decide), ⟨1, s_aload_n dL_law_651 rfl, rfl⟩⟩, t_cv rfl mi_156 mok_156 rfl (fun _ => ⟨rfl, by decide +kernel⟩) (fun hs' e => by cases e; intro E n b h; cases h) (fun q fs As rest h hp hA hr => (call_V (i := i_291) (j := i_156) (C := RX6) (T := TX6) (N := 30) dL_law_652 mok_156 rfl ⟨by decide, by decide⟩ np_156 rfl rfl wt_1249 wt_1250 wt_1251 hp hA hr rfl).thr (fun _ => True.intro))⟩
theorem ok_291_61 : BkOK mi i_291 (bpf P_291) 61 (B_291.getD 61 bk0) := ⟨657, ⟨2, s_iload dL_law_655, rfl⟩, t_eq dL_law_657 (by decide) rfl⟩
theorem ok_291_62 : BkOK mi i_291 (bpf P_291) 62 (B_291.getD 62 bk0) := ⟨661, ⟨1, s_iconst dL_law_660 rfl, rfl⟩, t_retZ dL_law_661 rfl⟩
theorem ok_291_63 : BkOK mi i_291 (bpf P_291) 63 (B_291.getD 63 bk0) := ⟨664, ⟨2, s_iload dL_law_662, rfl⟩, t_ne0 dL_law_664 (by decide) rfl⟩
theorem ok_291_64 : BkOK mi i_291 (bpf P_291) 64 (B_291.getD 64 bk0) := ⟨674, ⟨1, s_aload_n dL_law_667 rfl, ⟨1, s_iconst dL_law_668 rfl, ⟨1, s_laload dL_law_669, ⟨2, s_iload dL_law_670, ⟨1, s_i2l dL_law_672, ⟨1, s_lcmp dL_law_673, rfl⟩⟩⟩⟩⟩⟩, t_eq0 dL_law_674 (by decide) rfl⟩
theorem ok_291_65 : BkOK mi i_291 (bpf P_291) 65 (B_291.getD 65 bk0) := ⟨678, ⟨1, s_iconst dL_law_677 rfl, rfl⟩, t_retZ dL_law_678 rfl⟩
theorem ok_291_66 : BkOK mi i_291 (bpf P_291) 66 (B_291.getD 66 bk0) := ⟨679, rfl, t_go dL_law_679 (by decide)⟩
theorem ok_291_67 : BkOK mi i_291 (bpf P_291) 67 (B_291.getD 67 bk0) := ⟨708, ⟨1, s_aload_n dL_law_682 rfl, ⟨1, s_aload_n dL_law_683 rfl, ⟨2, s_iload dL_law_684, ⟨1, s_iconst dL_law_686 rfl, ⟨1, s_iadd dL_law_687, ⟨1, s_iald dL_law_688, ⟨1, s_aload_n dL_law_689 rfl, ⟨2, s_iload dL_law_690, ⟨1, s_iconst dL_law_692 rfl, ⟨1, s_iadd dL_law_693, ⟨1, s_iald dL_law_694, ⟨1, s_aload_n dL_law_695 rfl, ⟨2, s_iload dL_law_696, ⟨1, s_iconst dL_law_698 rfl, ⟨1, s_iadd dL_law_699, ⟨1, s_iald dL_law_700, ⟨1, s_aload_n dL_law_701 rfl, ⟨2, s_iload dL_law_702, ⟨1, s_iconst dL_law_704 rfl, ⟨1, s_iadd dL_law_705, ⟨1, s_iald dL_law_706, ⟨1, s_aload_n dL_law_707 rfl, rfl⟩⟩⟩⟩⟩⟩⟩⟩⟩⟩⟩⟩⟩⟩⟩⟩⟩⟩⟩⟩⟩⟩, t_cs rfl mi_269 mok_269 rfl (fun As rest h hA hr => call_SX dL_law_708 mok_269 (by decide) ⟨by decide, by decide⟩ np_269 wt_870 wt_871 hA hr)⟩
theorem ok_291_68 : BkOK mi i_291 (bpf P_291) 68 (B_291.getD 68 bk0) := ⟨738, ⟨2, s_istore dL_law_711 (by decide), ⟨1, s_aload_n dL_law_713 rfl, ⟨1, s_aload_n dL_law_714 rfl, ⟨2, s_iload dL_law_715, ⟨1, s_iconst dL_law_717 rfl, ⟨1, s_iadd dL_law_718, ⟨1, s_iald dL_law_719, ⟨1, s_aload_n dL_law_720 rfl, ⟨2, s_iload dL_law_721, ⟨1, s_iconst dL_law_723 rfl, ⟨1, s_iadd dL_law_724, ⟨1, s_iald dL_law_725, ⟨1, s_aload_n dL_law_726 rfl, ⟨2, s_iload dL_law_727, ⟨1, s_iconst dL_law_729 rfl, ⟨1, s_iadd dL_law_730, ⟨1, s_iald dL_law_731, ⟨1, s_aload_n dL_law_732 rfl, ⟨2, s_iload dL_law_733, ⟨1, s_iconst dL_law_735 rfl, ⟨1, s_iadd dL_law_736, ⟨1, s_iald dL_law_737, rfl⟩⟩⟩⟩⟩⟩⟩⟩⟩⟩⟩⟩⟩⟩⟩⟩⟩⟩⟩⟩⟩⟩, t_cv rfl mi_225 mok_225 rfl (fun _ => ⟨rfl, by decide +kernel⟩) (fun hs' e => by cases e; intro E n b h; cases h) (fun q fs As rest h hp hA hr => (call_V (i := i_291) (j := i_225) (C := RX6) (T := TX6) (N := 30) dL_law_738 mok_225 rfl ⟨by decide, by decide⟩ np_225 rfl rfl wt_1474 wt_1475 wt_1476 hp hA hr rfl).thr (fun _ => True.intro))⟩
theorem ok_291_69 : BkOK mi i_291 (bpf P_291) 69 (B_291.getD 69 bk0) := ⟨744, ⟨2, s_istore dL_law_741 (by decide), ⟨1, s_aload_n dL_law_743 rfl, rfl⟩⟩, t_cv rfl mi_156 mok_156 rfl (fun _ => ⟨rfl, by decide +kernel⟩) (fun hs' e => by cases e; intro E n b h; cases h) (fun q fs As rest h hp hA hr => (call_V (i := i_291) (j := i_156) (C := RX6) (T := TX6) (N := 30) dL_law_744 mok_156 rfl ⟨by decide, by decide⟩ np_156 rfl rfl wt_1249 wt_1250 wt_1251 hp hA hr rfl).thr (fun _ => True.intro))⟩
theorem ok_291_70 : BkOK mi i_291 (bpf P_291) 70 (B_291.getD 70 bk0) := ⟨749, ⟨2, s_iload dL_law_747, rfl⟩, t_eq dL_law_749 (by decide) rfl⟩
theorem ok_291_71 : BkOK mi i_291 (bpf P_291) 71 (B_291.getD 71 bk0) := ⟨753, ⟨1, s_iconst dL_law_752 rfl, rfl⟩, t_retZ dL_law_753 rfl⟩
theorem ok_291_72 : BkOK mi i_291 (bpf P_291) 72 (B_291.getD 72 bk0) := ⟨756, ⟨2, s_iload dL_law_754, rfl⟩, t_ne0 dL_law_756 (by decide) rfl⟩
theorem ok_291_73 : BkOK mi i_291 (bpf P_291) 73 (B_291.getD 73 bk0) := ⟨766, ⟨1, s_aload_n dL_law_759 rfl, ⟨1, s_iconst dL_law_760 rfl, ⟨1, s_laload dL_law_761, ⟨2, s_iload dL_law_762, ⟨1, s_i2l dL_law_764, ⟨1, s_lcmp dL_law_765, rfl⟩⟩⟩⟩⟩⟩, t_eq0 dL_law_766 (by decide) rfl⟩
theorem ok_291_74 : BkOK mi i_291 (bpf P_291) 74 (B_291.getD 74 bk0) := ⟨770, ⟨1, s_iconst dL_law_769 rfl, rfl⟩, t_retZ dL_law_770 rfl⟩
theorem ok_291_75 : BkOK mi i_291 (bpf P_291) 75 (B_291.getD 75 bk0) := ⟨771, rfl, t_go dL_law_771 (by decide)⟩
theorem ok_291_76 : BkOK mi i_291 (bpf P_291) 76 (B_291.getD 76 bk0) := ⟨775, ⟨1, s_aload_n dL_law_774 rfl, rfl⟩, t_cv rfl mi_102 mok_102 rfl (fun _ => ⟨rfl, by decide +kernel⟩) (fun hs' e => by cases e; intro E n b h; cases h) (fun q fs As rest h hp hA hr => (call_V (i := i_291) (j := i_102) (C := RX5) (T := TX5) (N := 12) dL_law_775 mok_102 rfl ⟨by decide, by decide⟩ np_102 rfl rfl wt_475 wt_476 wt_477 hp hA hr rfl).thr (fun _ => True.intro))⟩
theorem ok_291_77 : BkOK mi i_291 (bpf P_291) 77 (B_291.getD 77 bk0) := ⟨779, ⟨1, s_aload_n dL_law_778 rfl, rfl⟩, t_cv rfl mi_226 mok_226 rfl (fun _ => ⟨rfl, by decide +kernel⟩) (fun hs' e => by cases e; intro E n b h; cases h) (fun q fs As rest h hp hA hr => (call_V (i := i_291) (j := i_226) (C := RX6) (T := TX6) (N := 30) dL_law_779 mok_226 rfl ⟨by decide, by decide⟩ np_226 rfl rfl wt_1485 wt_1486 wt_1487 hp hA hr rfl).thr (fun _ => True.intro))⟩
theorem ok_291_78 : BkOK mi i_291 (bpf P_291) 78 (B_291.getD 78 bk0) := ⟨782, rfl, t_eq dL_law_782 (by decide) rfl⟩
theorem ok_291_79 : BkOK mi i_291 (bpf P_291) 79 (B_291.getD 79 bk0) := ⟨786, ⟨1, s_iconst dL_law_785 rfl, rfl⟩, t_retZ dL_law_786 rfl⟩
theorem ok_291_80 : BkOK mi i_291 (bpf P_291) 80 (B_291.getD 80 bk0) := ⟨801, ⟨1, s_aload_n dL_law_787 rfl, ⟨1, s_aload_n dL_law_788 rfl, ⟨2, s_iload dL_law_789, ⟨1, s_iconst dL_law_791 rfl, ⟨1, s_iadd dL_law_792, ⟨1, s_iald dL_law_793, ⟨1, s_aload_n dL_law_794 rfl, ⟨2, s_iload dL_law_795, ⟨1, s_iconst dL_law_797 rfl, ⟨1, s_iadd dL_law_798, ⟨1, s_iald dL_law_799, ⟨1, s_aload_n dL_law_800 rfl, rfl⟩⟩⟩⟩⟩⟩⟩⟩⟩⟩⟩⟩, t_cs rfl mi_270 mok_270 rfl (fun As rest h hA hr => call_SX dL_law_801 mok_270 (by decide) ⟨by decide, by decide⟩ np_270 wt_878 wt_879 hA hr)⟩
theorem ok_291_81 : BkOK mi i_291 (bpf P_291) 81 (B_291.getD 81 bk0) := ⟨819, ⟨2, s_istore dL_law_804 (by decide), ⟨1, s_aload_n dL_law_806 rfl, ⟨1, s_aload_n dL_law_807 rfl, ⟨2, s_iload dL_law_808, ⟨1, s_iconst dL_law_810 rfl, ⟨1, s_iadd dL_law_811, ⟨1, s_iald dL_law_812, ⟨1, s_aload_n dL_law_813 rfl, ⟨2, s_iload dL_law_814, ⟨1, s_iconst dL_law_816 rfl, ⟨1, s_iadd dL_law_817, ⟨1, s_iald dL_law_818, rfl⟩⟩⟩⟩⟩⟩⟩⟩⟩⟩⟩⟩, t_cv rfl mi_227 mok_227 rfl (fun _ => ⟨rfl, by decide +kernel⟩) (fun hs' e => by cases e; intro E n b h; cases h) (fun q fs As rest h hp hA hr => (call_V (i := i_291) (j := i_227) (C := RX6) (T := TX6) (N := 30) dL_law_819 mok_227 rfl ⟨by decide, by decide⟩ np_227 rfl rfl wt_1527 wt_1528 wt_1529 hp hA hr rfl).thr (fun _ => True.intro))⟩
theorem ok_291_82 : BkOK mi i_291 (bpf P_291) 82 (B_291.getD 82 bk0) := ⟨825, ⟨2, s_istore dL_law_822 (by decide), ⟨1, s_aload_n dL_law_824 rfl, rfl⟩⟩, t_cv rfl mi_156 mok_156 rfl (fun _ => ⟨rfl, by decide +kernel⟩) (fun hs' e => by cases e; intro E n b h; cases h) (fun q fs As rest h hp hA hr => (call_V (i := i_291) (j := i_156) (C := RX6) (T := TX6) (N := 30) dL_law_825 mok_156 rfl ⟨by decide, by decide⟩ np_156 rfl rfl wt_1249 wt_1250 wt_1251 hp hA hr rfl).thr (fun _ => True.intro))⟩
theorem ok_291_83 : BkOK mi i_291 (bpf P_291) 83 (B_291.getD 83 bk0) := ⟨830, ⟨2, s_iload dL_law_828, rfl⟩, t_eq dL_law_830 (by decide) rfl⟩
theorem ok_291_84 : BkOK mi i_291 (bpf P_291) 84 (B_291.getD 84 bk0) := ⟨834, ⟨1, s_iconst dL_law_833 rfl, rfl⟩, t_retZ dL_law_834 rfl⟩
theorem ok_291_85 : BkOK mi i_291 (bpf P_291) 85 (B_291.getD 85 bk0) := ⟨837, ⟨2, s_iload dL_law_835, rfl⟩, t_ne0 dL_law_837 (by decide) rfl⟩
theorem ok_291_86 : BkOK mi i_291 (bpf P_291) 86 (B_291.getD 86 bk0) := ⟨847, ⟨1, s_aload_n dL_law_840 rfl, ⟨1, s_iconst dL_law_841 rfl, ⟨1, s_laload dL_law_842, ⟨2, s_iload dL_law_843, ⟨1, s_i2l dL_law_845, ⟨1, s_lcmp dL_law_846, rfl⟩⟩⟩⟩⟩⟩, t_eq0 dL_law_847 (by decide) rfl⟩
theorem ok_291_87 : BkOK mi i_291 (bpf P_291) 87 (B_291.getD 87 bk0) := ⟨851, ⟨1, s_iconst dL_law_850 rfl, rfl⟩, t_retZ dL_law_851 rfl⟩
theorem ok_291_88 : BkOK mi i_291 (bpf P_291) 88 (B_291.getD 88 bk0) := ⟨852, rfl, t_go dL_law_852 (by decide)⟩
theorem ok_291_89 : BkOK mi i_291 (bpf P_291) 89 (B_291.getD 89 bk0) := ⟨869, ⟨1, s_aload_n dL_law_855 rfl, ⟨1, s_aload_n dL_law_856 rfl, ⟨2, s_iload dL_law_857, ⟨1, s_iconst dL_law_859 rfl, ⟨1, s_iadd dL_law_860, ⟨1, s_iald dL_law_861, ⟨1, s_aload_n dL_law_862 rfl, ⟨2, s_iload dL_law_863, ⟨1, s_iconst dL_law_865 rfl, ⟨1, s_iadd dL_law_866, ⟨1, s_iald dL_law_867, ⟨1, s_aload_n dL_law_868 rfl, rfl⟩⟩⟩⟩⟩⟩⟩⟩⟩⟩⟩⟩, t_cs rfl mi_271 mok_271 rfl (fun As rest h hA hr => call_SX dL_law_869 mok_271 (by decide) ⟨by decide, by decide⟩ np_271 wt_909 wt_910 hA hr)⟩
theorem ok_291_90 : BkOK mi i_291 (bpf P_291) 90 (B_291.getD 90 bk0) := ⟨887, ⟨2, s_istore dL_law_872 (by decide), ⟨1, s_aload_n dL_law_874 rfl, ⟨1, s_aload_n dL_law_875 rfl, ⟨2, s_iload dL_law_876, ⟨1, s_iconst dL_law_878 rfl, ⟨1, s_iadd dL_law_879, ⟨1, s_iald dL_law_880, ⟨1, s_aload_n dL_law_881 rfl, ⟨2, s_iload dL_law_882, ⟨1, s_iconst dL_law_884 rfl, ⟨1, s_iadd dL_law_885, ⟨1, s_iald dL_law_886, rfl⟩⟩⟩⟩⟩⟩⟩⟩⟩⟩⟩⟩, t_cv rfl mi_228 mok_228 rfl (fun _ => ⟨rfl, by decide +kernel⟩) (fun hs' e => by cases e; intro E n b h; cases h) (fun q fs As rest h hp hA hr => (call_V (i := i_291) (j := i_228) (C := RX6) (T := TX6) (N := 30) dL_law_887 mok_228 rfl ⟨by decide, by decide⟩ np_228 rfl rfl wt_1539 wt_1540 wt_1541 hp hA hr rfl).thr (fun _ => True.intro))⟩
theorem ok_291_91 : BkOK mi i_291 (bpf P_291) 91 (B_291.getD 91 bk0) := ⟨893, ⟨2, s_istore dL_law_890 (by decide), ⟨1, s_aload_n dL_law_892 rfl, rfl⟩⟩, t_cv rfl mi_156 mok_156 rfl (fun _ => ⟨rfl, by decide +kernel⟩) (fun hs' e => by cases e; intro E n b h; cases h) (fun q fs As rest h hp hA hr => (call_V (i := i_291) (j := i_156) (C := RX6) (T := TX6) (N := 30) dL_law_893 mok_156 rfl ⟨by decide, by decide⟩ np_156 rfl rfl wt_1249 wt_1250 wt_1251 hp hA hr rfl).thr (fun _ => True.intro))⟩
theorem ok_291_92 : BkOK mi i_291 (bpf P_291) 92 (B_291.getD 92 bk0) := ⟨898, ⟨2, s_iload dL_law_896, rfl⟩, t_eq dL_law_898 (by decide) rfl⟩
theorem ok_291_93 : BkOK mi i_291 (bpf P_291) 93 (B_291.getD 93 bk0) := ⟨902, ⟨1, s_iconst dL_law_901 rfl, rfl⟩, t_retZ dL_law_902 rfl⟩
theorem ok_291_94 : BkOK mi i_291 (bpf P_291) 94 (B_291.getD 94 bk0) := ⟨905, ⟨2, s_iload dL_law_903, rfl⟩, t_ne0 dL_law_905 (by decide) rfl⟩
theorem ok_291_95 : BkOK mi i_291 (bpf P_291) 95 (B_291.getD 95 bk0) := ⟨915, ⟨1, s_aload_n dL_law_908 rfl, ⟨1, s_iconst dL_law_909 rfl, ⟨1, s_laload dL_law_910, ⟨2, s_iload dL_law_911, ⟨1, s_i2l dL_law_913, ⟨1, s_lcmp dL_law_914, rfl⟩⟩⟩⟩⟩⟩, t_eq0 dL_law_915 (by decide) rfl⟩
theorem ok_291_96 : BkOK mi i_291 (bpf P_291) 96 (B_291.getD 96 bk0) := ⟨919, ⟨1, s_iconst dL_law_918 rfl, rfl⟩, t_retZ dL_law_919 rfl⟩
theorem ok_291_97 : BkOK mi i_291 (bpf P_291) 97 (B_291.getD 97 bk0) := ⟨920, rfl, t_go dL_law_920 (by decide)⟩
theorem ok_291_98 : BkOK mi i_291 (bpf P_291) 98 (B_291.getD 98 bk0) := ⟨930, ⟨1, s_aload_n dL_law_923 rfl, ⟨1, s_aload_n dL_law_924 rfl, ⟨2, s_iload dL_law_925, ⟨1, s_iconst dL_law_927 rfl, ⟨1, s_iadd dL_law_928, ⟨1, s_iald dL_law_929, rfl⟩⟩⟩⟩⟩⟩, t_eq0 dL_law_930 (by decide) rfl⟩
theorem ok_291_99 : BkOK mi i_291 (bpf P_291) 99 (B_291.getD 99 bk0) := ⟨934, ⟨1, s_iconst dL_law_933 rfl, rfl⟩, t_go dL_law_934 (by decide)⟩
theorem ok_291_100 : BkOK mi i_291 (bpf P_291) 100 (B_291.getD 100 bk0) := ⟨938, ⟨1, s_iconst dL_law_937 rfl, rfl⟩, t_fall rfl⟩
theorem ok_291_101 : BkOK mi i_291 (bpf P_291) 101 (B_291.getD 101 bk0) := ⟨938, rfl, t_cv rfl mi_105 mok_105 rfl (fun _ => ⟨rfl, by decide +kernel⟩) (fun hs' e => by cases e; intro E n b h; cases h) (fun q fs As rest h hp hA hr => (call_V (i := i_291) (j := i_105) (C := RX5) (T := TX5) (N := 12) dL_law_938 mok_105 rfl ⟨by decide, by decide⟩ np_105 rfl rfl wt_607 wt_608 wt_609 hp hA hr rfl).thr (fun _ => True.intro))⟩
theorem ok_291_102 : BkOK mi i_291 (bpf P_291) 102 (B_291.getD 102 bk0) := ⟨948, ⟨1, s_aload_n dL_law_941 rfl, ⟨1, s_aload_n dL_law_942 rfl, ⟨2, s_iload dL_law_943, ⟨1, s_iconst dL_law_945 rfl, ⟨1, s_iadd dL_law_946, ⟨1, s_iald dL_law_947, rfl⟩⟩⟩⟩⟩⟩, t_eq0 dL_law_948 (by decide) rfl⟩
theorem ok_291_103 : BkOK mi i_291 (bpf P_291) 103 (B_291.getD 103 bk0) := ⟨952, ⟨1, s_iconst dL_law_951 rfl, rfl⟩, t_go dL_law_952 (by decide)⟩
theorem ok_291_104 : BkOK mi i_291 (bpf P_291) 104 (B_291.getD 104 bk0) := ⟨956, ⟨1, s_iconst dL_law_955 rfl, rfl⟩, t_fall rfl⟩
theorem ok_291_105 : BkOK mi i_291 (bpf P_291) 105 (B_291.getD 105 bk0) := ⟨956, rfl, t_cv rfl mi_229 mok_229 rfl (fun _ => ⟨rfl, by decide +kernel⟩) (fun hs' e => by cases e; intro E n b h; cases h) (fun q fs As rest h hp hA hr => (call_V (i := i_291) (j := i_229) (C := RX6) (T := TX6) (N := 30) dL_law_956 mok_229 rfl ⟨by decide, by decide⟩ np_229 rfl rfl wt_1551 wt_1552 wt_1553 hp hA hr rfl).thr (fun _ => True.intro))⟩
theorem ok_291_106 : BkOK mi i_291 (bpf P_291) 106 (B_291.getD 106 bk0) := ⟨960, ⟨1, s_lcmp dL_law_959, rfl⟩, t_eq0 dL_law_960 (by decide) rfl⟩
theorem ok_291_107 : BkOK mi i_291 (bpf P_291) 107 (B_291.getD 107 bk0) := ⟨964, ⟨1, s_iconst dL_law_963 rfl, rfl⟩, t_retZ dL_law_964 rfl⟩
theorem ok_291_108 : BkOK mi i_291 (bpf P_291) 108 (B_291.getD 108 bk0) := ⟨985, ⟨1, s_aload_n dL_law_965 rfl, ⟨1, s_aload_n dL_law_966 rfl, ⟨2, s_iload dL_law_967, ⟨1, s_iconst dL_law_969 rfl, ⟨1, s_iadd dL_law_970, ⟨1, s_iald dL_law_971, ⟨1, s_aload_n dL_law_972 rfl, ⟨2, s_iload dL_law_973, ⟨1, s_iconst dL_law_975 rfl, ⟨1, s_iadd dL_law_976, ⟨1, s_iald dL_law_977, ⟨1, s_aload_n dL_law_978 rfl, ⟨2, s_iload dL_law_979, ⟨1, s_iconst dL_law_981 rfl, ⟨1, s_iadd dL_law_982, ⟨1, s_iald dL_law_983, ⟨1, s_aload_n dL_law_984 rfl, rfl⟩⟩⟩⟩⟩⟩⟩⟩⟩⟩⟩⟩⟩⟩⟩⟩⟩, t_cs rfl mi_272 mok_272 rfl (fun As rest h hA hr => call_SX dL_law_985 mok_272 (by decide) ⟨by decide, by decide⟩ np_272 wt_932 wt_933 hA hr)⟩
theorem ok_291_109 : BkOK mi i_291 (bpf P_291) 109 (B_291.getD 109 bk0) := ⟨1009, ⟨2, s_istore dL_law_988 (by decide), ⟨1, s_aload_n dL_law_990 rfl, ⟨1, s_aload_n dL_law_991 rfl, ⟨2, s_iload dL_law_992, ⟨1, s_iconst dL_law_994 rfl, ⟨1, s_iadd dL_law_995, ⟨1, s_iald dL_law_996, ⟨1, s_aload_n dL_law_997 rfl, ⟨2, s_iload dL_law_998, ⟨1, s_iconst dL_law_1000 rfl, ⟨1, s_iadd dL_law_1001, ⟨1, s_iald dL_law_1002, ⟨1, s_aload_n dL_law_1003 rfl, ⟨2, s_iload dL_law_1004, ⟨1, s_iconst dL_law_1006 rfl, ⟨1, s_iadd dL_law_1007, ⟨1, s_iald dL_law_1008, rfl⟩⟩⟩⟩⟩⟩⟩⟩⟩⟩⟩⟩⟩⟩⟩⟩⟩, t_cv rfl mi_230 mok_230 rfl (fun _ => ⟨rfl, by decide +kernel⟩) (fun hs' e => by cases e; intro E n b h; cases h) (fun q fs As rest h hp hA hr => (call_V (i := i_291) (j := i_230) (C := RX6) (T := TX6) (N := 30) dL_law_1009 mok_230 rfl ⟨by decide, by decide⟩ np_230 rfl rfl wt_1555 wt_1556 wt_1557 hp hA hr rfl).thr (fun _ => True.intro))⟩
theorem ok_291_110 : BkOK mi i_291 (bpf P_291) 110 (B_291.getD 110 bk0) := ⟨1015, ⟨2, s_istore dL_law_1012 (by decide), ⟨1, s_aload_n dL_law_1014 rfl, rfl⟩⟩, t_cv rfl mi_156 mok_156 rfl (fun _ => ⟨rfl, by decide +kernel⟩) (fun hs' e => by cases e; intro E n b h; cases h) (fun q fs As rest h hp hA hr => (call_V (i := i_291) (j := i_156) (C := RX6) (T := TX6) (N := 30) dL_law_1015 mok_156 rfl ⟨by decide, by decide⟩ np_156 rfl rfl wt_1249 wt_1250 wt_1251 hp hA hr rfl).thr (fun _ => True.intro))⟩
theorem ok_291_111 : BkOK mi i_291 (bpf P_291) 111 (B_291.getD 111 bk0) := ⟨1020, ⟨2, s_iload dL_law_1018, rfl⟩, t_eq dL_law_1020 (by decide) rfl⟩
theorem ok_291_112 : BkOK mi i_291 (bpf P_291) 112 (B_291.getD 112 bk0) := ⟨1024, ⟨1, s_iconst dL_law_1023 rfl, rfl⟩, t_retZ dL_law_1024 rfl⟩
theorem ok_291_113 : BkOK mi i_291 (bpf P_291) 113 (B_291.getD 113 bk0) := ⟨1027, ⟨2, s_iload dL_law_1025, rfl⟩, t_ne0 dL_law_1027 (by decide) rfl⟩
theorem ok_291_114 : BkOK mi i_291 (bpf P_291) 114 (B_291.getD 114 bk0) := ⟨1037, ⟨1, s_aload_n dL_law_1030 rfl, ⟨1, s_iconst dL_law_1031 rfl, ⟨1, s_laload dL_law_1032, ⟨2, s_iload dL_law_1033, ⟨1, s_i2l dL_law_1035, ⟨1, s_lcmp dL_law_1036, rfl⟩⟩⟩⟩⟩⟩, t_eq0 dL_law_1037 (by decide) rfl⟩
theorem ok_291_115 : BkOK mi i_291 (bpf P_291) 115 (B_291.getD 115 bk0) := ⟨1041, ⟨1, s_iconst dL_law_1040 rfl, rfl⟩, t_retZ dL_law_1041 rfl⟩
theorem ok_291_116 : BkOK mi i_291 (bpf P_291) 116 (B_291.getD 116 bk0) := ⟨1042, rfl, t_go dL_law_1042 (by decide)⟩
theorem ok_291_117 : BkOK mi i_291 (bpf P_291) 117 (B_291.getD 117 bk0) := ⟨1046, ⟨1, s_aload_n dL_law_1045 rfl, rfl⟩, t_cv rfl mi_107 mok_107 rfl (fun _ => ⟨rfl, by decide +kernel⟩) (fun hs' e => by cases e; intro E n b h; cases h) (fun q fs As rest h hp hA hr => (call_V (i := i_291) (j := i_107) (C := RX5) (T := TX5) (N := 12) dL_law_1046 mok_107 rfl ⟨by decide, by decide⟩ np_107 rfl rfl wt_631 wt_632 wt_633 hp hA hr rfl).thr (fun _ => True.intro))⟩
theorem ok_291_118 : BkOK mi i_291 (bpf P_291) 118 (B_291.getD 118 bk0) := ⟨1050, ⟨1, s_aload_n dL_law_1049 rfl, rfl⟩, t_cv rfl mi_232 mok_232 rfl (fun _ => ⟨rfl, by decide +kernel⟩) (fun hs' e => by cases e; intro E n b h; cases h) (fun q fs As rest h hp hA hr => (call_V (i := i_291) (j := i_232) (C := RX6) (T := TX6) (N := 30) dL_law_1050 mok_232 rfl ⟨by decide, by decide⟩ np_232 rfl rfl wt_1567 wt_1568 wt_1569 hp hA hr rfl).thr (fun _ => True.intro))⟩
theorem ok_291_119 : BkOK mi i_291 (bpf P_291) 119 (B_291.getD 119 bk0) := ⟨1053, rfl, t_eq dL_law_1053 (by decide) rfl⟩
theorem ok_291_120 : BkOK mi i_291 (bpf P_291) 120 (B_291.getD 120 bk0) := ⟨1057, ⟨1, s_iconst dL_law_1056 rfl, rfl⟩, t_retZ dL_law_1057 rfl⟩
theorem ok_291_121 : BkOK mi i_291 (bpf P_291) 121 (B_291.getD 121 bk0) := ⟨1066, ⟨1, s_aload_n dL_law_1058 rfl, ⟨1, s_aload_n dL_law_1059 rfl, ⟨2, s_iload dL_law_1060, ⟨1, s_iconst dL_law_1062 rfl, ⟨1, s_iadd dL_law_1063, ⟨1, s_iald dL_law_1064, ⟨1, s_aload_n dL_law_1065 rfl, rfl⟩⟩⟩⟩⟩⟩⟩, t_cs rfl mi_273 mok_273 rfl (fun As rest h hA hr => call_SX dL_law_1066 mok_273 (by decide) ⟨by decide, by decide⟩ np_273 wt_947 wt_948 hA hr)⟩
theorem ok_291_122 : BkOK mi i_291 (bpf P_291) 122 (B_291.getD 122 bk0) := ⟨1078, ⟨2, s_istore dL_law_1069 (by decide), ⟨1, s_aload_n dL_law_1071 rfl, ⟨1, s_aload_n dL_law_1072 rfl, ⟨2, s_iload dL_law_1073, ⟨1, s_iconst dL_law_1075 rfl, ⟨1, s_iadd dL_law_1076, ⟨1, s_iald dL_law_1077, rfl⟩⟩⟩⟩⟩⟩⟩, t_cv rfl mi_233 mok_233 rfl (fun _ => ⟨rfl, by decide +kernel⟩) (fun hs' e => by cases e; intro E n b h; cases h) (fun q fs As rest h hp hA hr => (call_V (i := i_291) (j := i_233) (C := RX6) (T := TX6) (N := 30) dL_law_1078 mok_233 rfl ⟨by decide, by decide⟩ np_233 rfl rfl wt_1571 wt_1572 wt_1573 hp hA hr rfl).thr (fun _ => True.intro))⟩
theorem ok_291_123 : BkOK mi i_291 (bpf P_291) 123 (B_291.getD 123 bk0) := ⟨1084, ⟨2, s_istore dL_law_1081 (by decide), ⟨1, s_aload_n dL_law_1083 rfl, rfl⟩⟩, t_cv rfl mi_156 mok_156 rfl (fun _ => ⟨rfl, by decide +kernel⟩) (fun hs' e => by cases e; intro E n b h; cases h) (fun q fs As rest h hp hA hr => (call_V (i := i_291) (j := i_156) (C := RX6) (T := TX6) (N := 30) dL_law_1084 mok_156 rfl ⟨by decide, by decide⟩ np_156 rfl rfl wt_1249 wt_1250 wt_1251 hp hA hr rfl).thr (fun _ => True.intro))⟩
theorem ok_291_124 : BkOK mi i_291 (bpf P_291) 124 (B_291.getD 124 bk0) := ⟨1089, ⟨2, s_iload dL_law_1087, rfl⟩, t_eq dL_law_1089 (by decide) rfl⟩
theorem ok_291_125 : BkOK mi i_291 (bpf P_291) 125 (B_291.getD 125 bk0) := ⟨1093, ⟨1, s_iconst dL_law_1092 rfl, rfl⟩, t_retZ dL_law_1093 rfl⟩
theorem ok_291_126 : BkOK mi i_291 (bpf P_291) 126 (B_291.getD 126 bk0) := ⟨1096, ⟨2, s_iload dL_law_1094, rfl⟩, t_ne0 dL_law_1096 (by decide) rfl⟩
theorem ok_291_127 : BkOK mi i_291 (bpf P_291) 127 (B_291.getD 127 bk0) := ⟨1106, ⟨1, s_aload_n dL_law_1099 rfl, ⟨1, s_iconst dL_law_1100 rfl, ⟨1, s_laload dL_law_1101, ⟨2, s_iload dL_law_1102, ⟨1, s_i2l dL_law_1104, ⟨1, s_lcmp dL_law_1105, rfl⟩⟩⟩⟩⟩⟩, t_eq0 dL_law_1106 (by decide) rfl⟩
theorem ok_291_128 : BkOK mi i_291 (bpf P_291) 128 (B_291.getD 128 bk0) := ⟨1110, ⟨1, s_iconst dL_law_1109 rfl, rfl⟩, t_retZ dL_law_1110 rfl⟩
theorem ok_291_129 : BkOK mi i_291 (bpf P_291) 129 (B_291.getD 129 bk0) := ⟨1111, rfl, t_go dL_law_1111 (by decide)⟩
theorem ok_291_130 : BkOK mi i_291 (bpf P_291) 130 (B_291.getD 130 bk0) := ⟨1116, ⟨1, s_aload_n dL_law_1114 rfl, ⟨1, s_aload_n dL_law_1115 rfl, rfl⟩⟩, t_cs rfl mi_274 mok_274 rfl (fun As rest h hA hr => call_SX dL_law_1116 mok_274 (by decide) ⟨by decide, by decide⟩ np_274 wt_954 wt_955 hA hr)⟩
theorem ok_291_131 : BkOK mi i_291 (bpf P_291) 131 (B_291.getD 131 bk0) := ⟨1122, ⟨2, s_istore dL_law_1119 (by decide), ⟨1, s_aload_n dL_law_1121 rfl, rfl⟩⟩, t_cv rfl mi_235 mok_235 rfl (fun _ => ⟨rfl, by decide +kernel⟩) (fun hs' e => by cases e; intro E n b h; cases h) (fun q fs As rest h hp hA hr => (call_V (i := i_291) (j := i_235) (C := RX6) (T := TX6) (N := 30) dL_law_1122 mok_235 rfl ⟨by decide, by decide⟩ np_235 rfl rfl wt_1575 wt_1576 wt_1577 hp hA hr rfl).thr (fun _ => True.intro))⟩
theorem ok_291_132 : BkOK mi i_291 (bpf P_291) 132 (B_291.getD 132 bk0) := ⟨1128, ⟨2, s_istore dL_law_1125 (by decide), ⟨1, s_aload_n dL_law_1127 rfl, rfl⟩⟩, t_cv rfl mi_156 mok_156 rfl (fun _ => ⟨rfl, by decide +kernel⟩) (fun hs' e => by cases e; intro E n b h; cases h) (fun q fs As rest h hp hA hr => (call_V (i := i_291) (j := i_156) (C := RX6) (T := TX6) (N := 30) dL_law_1128 mok_156 rfl ⟨by decide, by decide⟩ np_156 rfl rfl wt_1249 wt_1250 wt_1251 hp hA hr rfl).thr (fun _ => True.intro))⟩
theorem ok_291_133 : BkOK mi i_291 (bpf P_291) 133 (B_291.getD 133 bk0) := ⟨1133, ⟨2, s_iload dL_law_1131, rfl⟩, t_eq dL_law_1133 (by decide) rfl⟩
theorem ok_291_134 : BkOK mi i_291 (bpf P_291) 134 (B_291.getD 134 bk0) := ⟨1137, ⟨1, s_iconst dL_law_1136 rfl, rfl⟩, t_retZ dL_law_1137 rfl⟩
theorem ok_291_135 : BkOK mi i_291 (bpf P_291) 135 (B_291.getD 135 bk0) := ⟨1140, ⟨2, s_iload dL_law_1138, rfl⟩, t_ne0 dL_law_1140 (by decide) rfl⟩
theorem ok_291_136 : BkOK mi i_291 (bpf P_291) 136 (B_291.getD 136 bk0) := ⟨1150, ⟨1, s_aload_n dL_law_1143 rfl, ⟨1, s_iconst dL_law_1144 rfl, ⟨1, s_laload dL_law_1145, ⟨2, s_iload dL_law_1146, ⟨1, s_i2l dL_law_1148, ⟨1, s_lcmp dL_law_1149, rfl⟩⟩⟩⟩⟩⟩, t_eq0 dL_law_1150 (by decide) rfl⟩
theorem ok_291_137 : BkOK mi i_291 (bpf P_291) 137 (B_291.getD 137 bk0) := ⟨1154, ⟨1, s_iconst dL_law_1153 rfl, rfl⟩, t_retZ dL_law_1154 rfl⟩
theorem ok_291_138 : BkOK mi i_291 (bpf P_291) 138 (B_291.getD 138 bk0) := ⟨1155, rfl, t_go dL_law_1155 (by decide)⟩
theorem ok_291_139 : BkOK mi i_291 (bpf P_291) 139 (B_291.getD 139 bk0) := ⟨1161, ⟨1, s_aload_n dL_law_1158 rfl, ⟨2, s_aload dL_law_1159, rfl⟩⟩, t_cs rfl mi_275 mok_275 rfl (fun As rest h hA hr => call_SX dL_law_1161 mok_275 (by decide) ⟨by decide, by decide⟩ np_275 wt_972 wt_973 hA hr)⟩
theorem ok_291_140 : BkOK mi i_291 (bpf P_291) 140 (B_291.getD 140 bk0) := ⟨1167, ⟨2, s_istore dL_law_1164 (by decide), ⟨1, s_aload_n dL_law_1166 rfl, rfl⟩⟩, t_cv rfl mi_236 mok_236 rfl (fun _ => ⟨rfl, by decide +kernel⟩) (fun hs' e => by cases e; intro E n b h; cases h) (fun q fs As rest h hp hA hr => (call_V (i := i_291) (j := i_236) (C := RX6) (T := TX6) (N := 30) dL_law_1167 mok_236 rfl ⟨by decide, by decide⟩ np_236 rfl rfl wt_1583 wt_1584 wt_1585 hp hA hr rfl).thr (fun _ => True.intro))⟩
theorem ok_291_141 : BkOK mi i_291 (bpf P_291) 141 (B_291.getD 141 bk0) := ⟨1173, ⟨2, s_dstore dL_law_1170 (by decide), ⟨1, s_aload_n dL_law_1172 rfl, rfl⟩⟩, t_cv rfl mi_156 mok_156 rfl (fun _ => ⟨rfl, by decide +kernel⟩) (fun hs' e => by cases e; intro E n b h; cases h) (fun q fs As rest h hp hA hr => (call_V (i := i_291) (j := i_156) (C := RX6) (T := TX6) (N := 30) dL_law_1173 mok_156 rfl ⟨by decide, by decide⟩ np_156 rfl rfl wt_1249 wt_1250 wt_1251 hp hA hr rfl).thr (fun _ => True.intro))⟩
theorem ok_291_142 : BkOK mi i_291 (bpf P_291) 142 (B_291.getD 142 bk0) := ⟨1178, ⟨2, s_iload dL_law_1176, rfl⟩, t_eq dL_law_1178 (by decide) rfl⟩
theorem ok_291_143 : BkOK mi i_291 (bpf P_291) 143 (B_291.getD 143 bk0) := ⟨1182, ⟨1, s_iconst dL_law_1181 rfl, rfl⟩, t_retZ dL_law_1182 rfl⟩
theorem ok_291_144 : BkOK mi i_291 (bpf P_291) 144 (B_291.getD 144 bk0) := ⟨1185, ⟨2, s_iload dL_law_1183, rfl⟩, t_ne0 dL_law_1185 (by decide) rfl⟩
theorem ok_291_145 : BkOK mi i_291 (bpf P_291) 145 (B_291.getD 145 bk0) := ⟨1195, ⟨2, s_aload dL_law_1188, ⟨1, s_iconst dL_law_1190 rfl, ⟨1, s_daload dL_law_1191, ⟨2, s_dload dL_law_1192, ⟨1, s_dcmp dL_law_1194, rfl⟩⟩⟩⟩⟩, t_eq0 dL_law_1195 (by decide) rfl⟩
theorem ok_291_146 : BkOK mi i_291 (bpf P_291) 146 (B_291.getD 146 bk0) := ⟨1207, ⟨2, s_aload dL_law_1198, ⟨1, s_iconst dL_law_1200 rfl, ⟨1, s_daload dL_law_1201, ⟨2, s_aload dL_law_1202, ⟨1, s_iconst dL_law_1204 rfl, ⟨1, s_daload dL_law_1205, ⟨1, s_dcmp dL_law_1206, rfl⟩⟩⟩⟩⟩⟩⟩, t_eq0 dL_law_1207 (by decide) rfl⟩
theorem ok_291_147 : BkOK mi i_291 (bpf P_291) 147 (B_291.getD 147 bk0) := ⟨1215, ⟨2, s_dload dL_law_1210, ⟨2, s_dload dL_law_1212, ⟨1, s_dcmp dL_law_1214, rfl⟩⟩⟩, t_ne0 dL_law_1215 (by decide) rfl⟩
theorem ok_291_148 : BkOK mi i_291 (bpf P_291) 148 (B_291.getD 148 bk0) := ⟨1219, ⟨1, s_iconst dL_law_1218 rfl, rfl⟩, t_retZ dL_law_1219 rfl⟩
theorem ok_291_149 : BkOK mi i_291 (bpf P_291) 149 (B_291.getD 149 bk0) := ⟨1220, rfl, t_go dL_law_1220 (by decide)⟩
theorem ok_291_150 : BkOK mi i_291 (bpf P_291) 150 (B_291.getD 150 bk0) := ⟨1224, ⟨1, s_aload_n dL_law_1223 rfl, rfl⟩, t_cv rfl mi_111 mok_111 rfl (fun _ => ⟨rfl, by decide +kernel⟩) (fun hs' e => by cases e; intro E n b h; cases h) (fun q fs As rest h hp hA hr => (call_V (i := i_291) (j := i_111) (C := RX5) (T := TX5) (N := 12) dL_law_1224 mok_111 rfl ⟨by decide, by decide⟩ np_111 rfl rfl wt_643 wt_644 wt_645 hp hA hr rfl).thr (fun _ => True.intro))⟩
theorem ok_291_151 : BkOK mi i_291 (bpf P_291) 151 (B_291.getD 151 bk0) := ⟨1228, ⟨1, s_aload_n dL_law_1227 rfl, rfl⟩, t_cv rfl mi_240 mok_240 rfl (fun _ => ⟨rfl, by decide +kernel⟩) (fun hs' e => by cases e; intro E n b h; cases h) (fun q fs As rest h hp hA hr => (call_V (i := i_291) (j := i_240) (C := RX6) (T := TX6) (N := 30) dL_law_1228 mok_240 rfl ⟨by decide, by decide⟩ np_240 rfl rfl wt_1587 wt_1588 wt_1589 hp hA hr rfl).thr (fun _ => True.intro))⟩
theorem ok_291_152 : BkOK mi i_291 (bpf P_291) 152 (B_291.getD 152 bk0) := ⟨1231, rfl, t_eq dL_law_1231 (by decide) rfl⟩
theorem ok_291_153 : BkOK mi i_291 (bpf P_291) 153 (B_291.getD 153 bk0) := ⟨1235, ⟨1, s_iconst dL_law_1234 rfl, rfl⟩, t_retZ dL_law_1235 rfl⟩
theorem ok_291_154 : BkOK mi i_291 (bpf P_291) 154 (B_291.getD 154 bk0) := ⟨1237, ⟨1, s_aload_n dL_law_1236 rfl, rfl⟩, t_cv rfl mi_112 mok_112 rfl (fun _ => ⟨rfl, by decide +kernel⟩) (fun hs' e => by cases e; intro E n b h; cases h) (fun q fs As rest h hp hA hr => (call_V (i := i_291) (j := i_112) (C := RX5) (T := TX5) (N := 12) dL_law_1237 mok_112 rfl ⟨by decide, by decide⟩ np_112 rfl rfl wt_664 wt_665 wt_666 hp hA hr rfl).thr (fun _ => True.intro))⟩
theorem ok_291_155 : BkOK mi i_291 (bpf P_291) 155 (B_291.getD 155 bk0) := ⟨1241, ⟨1, s_aload_n dL_law_1240 rfl, rfl⟩, t_cv rfl mi_241 mok_241 rfl (fun _ => ⟨rfl, by decide +kernel⟩) (fun hs' e => by cases e; intro E n b h; cases h) (fun q fs As rest h hp hA hr => (call_V (i := i_291) (j := i_241) (C := RX6) (T := TX6) (N := 30) dL_law_1241 mok_241 rfl ⟨by decide, by decide⟩ np_241 rfl rfl wt_1603 wt_1604 wt_1605 hp hA hr rfl).thr (fun _ => True.intro))⟩
theorem ok_291_156 : BkOK mi i_291 (bpf P_291) 156 (B_291.getD 156 bk0) := ⟨1244, rfl, t_eq dL_law_1244 (by decide) rfl⟩
theorem ok_291_157 : BkOK mi i_291 (bpf P_291) 157 (B_291.getD 157 bk0) := ⟨1248, ⟨1, s_iconst dL_law_1247 rfl, rfl⟩, t_retZ dL_law_1248 rfl⟩
theorem ok_291_158 : BkOK mi i_291 (bpf P_291) 158 (B_291.getD 158 bk0) := ⟨1250, ⟨1, s_aload_n dL_law_1249 rfl, rfl⟩, t_cv rfl mi_113 mok_113 rfl (fun _ => ⟨rfl, by decide +kernel⟩) (fun hs' e => by cases e; intro E n b h; cases h) (fun q fs As rest h hp hA hr => (call_V (i := i_291) (j := i_113) (C := RX5) (T := TX5) (N := 12) dL_law_1250 mok_113 rfl ⟨by decide, by decide⟩ np_113 rfl rfl wt_668 wt_669 wt_670 hp hA hr rfl).thr (fun _ => True.intro))⟩
theorem ok_291_159 : BkOK mi i_291 (bpf P_291) 159 (B_291.getD 159 bk0) := ⟨1254, ⟨1, s_aload_n dL_law_1253 rfl, rfl⟩, t_cv rfl mi_242 mok_242 rfl (fun _ => ⟨rfl, by decide +kernel⟩) (fun hs' e => by cases e; intro E n b h; cases h) (fun q fs As rest h hp hA hr => (call_V (i := i_291) (j := i_242) (C := RX6) (T := TX6) (N := 30) dL_law_1254 mok_242 rfl ⟨by decide, by decide⟩ np_242 rfl rfl wt_1607 wt_1608 wt_1609 hp hA hr rfl).thr (fun _ => True.intro))⟩
theorem ok_291_160 : BkOK mi i_291 (bpf P_291) 160 (B_291.getD 160 bk0) := ⟨1257, rfl, t_eq dL_law_1257 (by decide) rfl⟩
theorem ok_291_161 : BkOK mi i_291 (bpf P_291) 161 (B_291.getD 161 bk0) := ⟨1261, ⟨1, s_iconst dL_law_1260 rfl, rfl⟩, t_retZ dL_law_1261 rfl⟩
theorem ok_291_162 : BkOK mi i_291 (bpf P_291) 162 (B_291.getD 162 bk0) := ⟨1270, ⟨1, s_aload_n dL_law_1262 rfl, ⟨1, s_aload_n dL_law_1263 rfl, ⟨2, s_iload dL_law_1264, ⟨1, s_iconst dL_law_1266 rfl, ⟨1, s_iadd dL_law_1267, ⟨1, s_iald dL_law_1268, ⟨1, s_aload_n dL_law_1269 rfl, rfl⟩⟩⟩⟩⟩⟩⟩, t_cs rfl mi_276 mok_276 rfl (fun As rest h hA hr => call_SX dL_law_1270 mok_276 (by decide) ⟨by decide, by decide⟩ np_276 wt_979 wt_980 hA hr)⟩
theorem ok_291_163 : BkOK mi i_291 (bpf P_291) 163 (B_291.getD 163 bk0) := ⟨1282, ⟨2, s_istore dL_law_1273 (by decide), ⟨1, s_aload_n dL_law_1275 rfl, ⟨1, s_aload_n dL_law_1276 rfl, ⟨2, s_iload dL_law_1277, ⟨1, s_iconst dL_law_1279 rfl, ⟨1, s_iadd dL_law_1280, ⟨1, s_iald dL_law_1281, rfl⟩⟩⟩⟩⟩⟩⟩, t_cv rfl mi_246 mok_246 rfl (fun _ => ⟨rfl, by decide +kernel⟩) (fun hs' e => by cases e; intro E n b h; cases h) (fun q fs As rest h hp hA hr => (call_V (i := i_291) (j := i_246) (C := RX6) (T := TX6) (N := 30) dL_law_1282 mok_246 rfl ⟨by decide, by decide⟩ np_246 rfl rfl wt_1611 wt_1612 wt_1613 hp hA hr rfl).thr (fun _ => True.intro))⟩
theorem ok_291_164 : BkOK mi i_291 (bpf P_291) 164 (B_291.getD 164 bk0) := ⟨1288, ⟨2, s_istore dL_law_1285 (by decide), ⟨1, s_aload_n dL_law_1287 rfl, rfl⟩⟩, t_cv rfl mi_156 mok_156 rfl (fun _ => ⟨rfl, by decide +kernel⟩) (fun hs' e => by cases e; intro E n b h; cases h) (fun q fs As rest h hp hA hr => (call_V (i := i_291) (j := i_156) (C := RX6) (T := TX6) (N := 30) dL_law_1288 mok_156 rfl ⟨by decide, by decide⟩ np_156 rfl rfl wt_1249 wt_1250 wt_1251 hp hA hr rfl).thr (fun _ => True.intro))⟩
theorem ok_291_165 : BkOK mi i_291 (bpf P_291) 165 (B_291.getD 165 bk0) := ⟨1293, ⟨2, s_iload dL_law_1291, rfl⟩, t_eq dL_law_1293 (by decide) rfl⟩
theorem ok_291_166 : BkOK mi i_291 (bpf P_291) 166 (B_291.getD 166 bk0) := ⟨1297, ⟨1, s_iconst dL_law_1296 rfl, rfl⟩, t_retZ dL_law_1297 rfl⟩
theorem ok_291_167 : BkOK mi i_291 (bpf P_291) 167 (B_291.getD 167 bk0) := ⟨1300, ⟨2, s_iload dL_law_1298, rfl⟩, t_ne0 dL_law_1300 (by decide) rfl⟩
theorem ok_291_168 : BkOK mi i_291 (bpf P_291) 168 (B_291.getD 168 bk0) := ⟨1310, ⟨1, s_aload_n dL_law_1303 rfl, ⟨1, s_iconst dL_law_1304 rfl, ⟨1, s_laload dL_law_1305, ⟨2, s_iload dL_law_1306, ⟨1, s_i2l dL_law_1308, ⟨1, s_lcmp dL_law_1309, rfl⟩⟩⟩⟩⟩⟩, t_eq0 dL_law_1310 (by decide) rfl⟩
theorem ok_291_169 : BkOK mi i_291 (bpf P_291) 169 (B_291.getD 169 bk0) := ⟨1314, ⟨1, s_iconst dL_law_1313 rfl, rfl⟩, t_retZ dL_law_1314 rfl⟩
theorem ok_291_170 : BkOK mi i_291 (bpf P_291) 170 (B_291.getD 170 bk0) := ⟨1315, rfl, t_go dL_law_1315 (by decide)⟩
theorem ok_291_171 : BkOK mi i_291 (bpf P_291) 171 (B_291.getD 171 bk0) := ⟨1326, ⟨1, s_aload_n dL_law_1318 rfl, ⟨1, s_aload_n dL_law_1319 rfl, ⟨2, s_iload dL_law_1320, ⟨1, s_iconst dL_law_1322 rfl, ⟨1, s_iadd dL_law_1323, ⟨1, s_iald dL_law_1324, ⟨1, s_aload_n dL_law_1325 rfl, rfl⟩⟩⟩⟩⟩⟩⟩, t_cs rfl mi_277 mok_277 rfl (fun As rest h hA hr => call_SX dL_law_1326 mok_277 (by decide) ⟨by decide, by decide⟩ np_277 wt_1003 wt_1004 hA hr)⟩
theorem ok_291_172 : BkOK mi i_291 (bpf P_291) 172 (B_291.getD 172 bk0) := ⟨1338, ⟨2, s_istore dL_law_1329 (by decide), ⟨1, s_aload_n dL_law_1331 rfl, ⟨1, s_aload_n dL_law_1332 rfl, ⟨2, s_iload dL_law_1333, ⟨1, s_iconst dL_law_1335 rfl, ⟨1, s_iadd dL_law_1336, ⟨1, s_iald dL_law_1337, rfl⟩⟩⟩⟩⟩⟩⟩, t_cv rfl mi_247 mok_247 rfl (fun _ => ⟨rfl, by decide +kernel⟩) (fun hs' e => by cases e; intro E n b h; cases h) (fun q fs As rest h hp hA hr => (call_V (i := i_291) (j := i_247) (C := RX6) (T := TX6) (N := 30) dL_law_1338 mok_247 rfl ⟨by decide, by decide⟩ np_247 rfl rfl wt_1627 wt_1628 wt_1629 hp hA hr rfl).thr (fun _ => True.intro))⟩
theorem ok_291_173 : BkOK mi i_291 (bpf P_291) 173 (B_291.getD 173 bk0) := ⟨1344, ⟨2, s_istore dL_law_1341 (by decide), ⟨1, s_aload_n dL_law_1343 rfl, rfl⟩⟩, t_cv rfl mi_156 mok_156 rfl (fun _ => ⟨rfl, by decide +kernel⟩) (fun hs' e => by cases e; intro E n b h; cases h) (fun q fs As rest h hp hA hr => (call_V (i := i_291) (j := i_156) (C := RX6) (T := TX6) (N := 30) dL_law_1344 mok_156 rfl ⟨by decide, by decide⟩ np_156 rfl rfl wt_1249 wt_1250 wt_1251 hp hA hr rfl).thr (fun _ => True.intro))⟩
theorem ok_291_174 : BkOK mi i_291 (bpf P_291) 174 (B_291.getD 174 bk0) := ⟨1349, ⟨2, s_iload dL_law_1347, rfl⟩, t_eq dL_law_1349 (by decide) rfl⟩
theorem ok_291_175 : BkOK mi i_291 (bpf P_291) 175 (B_291.getD 175 bk0) := ⟨1353, ⟨1, s_iconst dL_law_1352 rfl, rfl⟩, t_retZ dL_law_1353 rfl⟩
theorem ok_291_176 : BkOK mi i_291 (bpf P_291) 176 (B_291.getD 176 bk0) := ⟨1356, ⟨2, s_iload dL_law_1354, rfl⟩, t_ne0 dL_law_1356 (by decide) rfl⟩
theorem ok_291_177 : BkOK mi i_291 (bpf P_291) 177 (B_291.getD 177 bk0) := ⟨1366, ⟨1, s_aload_n dL_law_1359 rfl, ⟨1, s_iconst dL_law_1360 rfl, ⟨1, s_laload dL_law_1361, ⟨2, s_iload dL_law_1362, ⟨1, s_i2l dL_law_1364, ⟨1, s_lcmp dL_law_1365, rfl⟩⟩⟩⟩⟩⟩, t_eq0 dL_law_1366 (by decide) rfl⟩
theorem ok_291_178 : BkOK mi i_291 (bpf P_291) 178 (B_291.getD 178 bk0) := ⟨1370, ⟨1, s_iconst dL_law_1369 rfl, rfl⟩, t_retZ dL_law_1370 rfl⟩
theorem ok_291_179 : BkOK mi i_291 (bpf P_291) 179 (B_291.getD 179 bk0) := ⟨1371, rfl, t_go dL_law_1371 (by decide)⟩
theorem ok_291_180 : BkOK mi i_291 (bpf P_291) 180 (B_291.getD 180 bk0) := ⟨1375, ⟨1, s_aload_n dL_law_1374 rfl, rfl⟩, t_cv rfl mi_116 mok_116 rfl (fun _ => ⟨rfl, by decide +kernel⟩) (fun hs' e => by cases e; intro E n b h; cases h) (fun q fs As rest h hp hA hr => (call_V (i := i_291) (j := i_116) (C := RX5) (T := TX5) (N := 12) dL_law_1375 mok_116 rfl ⟨by decide, by decide⟩ np_116 rfl rfl wt_672 wt_673 wt_674 hp hA hr rfl).thr (fun _ => True.intro))⟩
theorem ok_291_181 : BkOK mi i_291 (bpf P_291) 181 (B_291.getD 181 bk0) := ⟨1379, ⟨1, s_aload_n dL_law_1378 rfl, rfl⟩, t_cv rfl mi_248 mok_248 rfl (fun _ => ⟨rfl, by decide +kernel⟩) (fun hs' e => by cases e; intro E n b h; cases h) (fun q fs As rest h hp hA hr => (call_V (i := i_291) (j := i_248) (C := RX6) (T := TX6) (N := 30) dL_law_1379 mok_248 rfl ⟨by decide, by decide⟩ np_248 rfl rfl wt_1631 wt_1632 wt_1633 hp hA hr rfl).thr (fun _ => True.intro))⟩
theorem ok_291_182 : BkOK mi i_291 (bpf P_291) 182 (B_291.getD 182 bk0) := ⟨1382, rfl, t_eq dL_law_1382 (by decide) rfl⟩
theorem ok_291_183 : BkOK mi i_291 (bpf P_291) 183 (B_291.getD 183 bk0) := ⟨1386, ⟨1, s_iconst dL_law_1385 rfl, rfl⟩, t_retZ dL_law_1386 rfl⟩
theorem ok_291_184 : BkOK mi i_291 (bpf P_291) 184 (B_291.getD 184 bk0) := ⟨1419, ⟨1, s_aload_n dL_law_1387 rfl, ⟨1, s_aload_n dL_law_1388 rfl, ⟨2, s_iload dL_law_1389, ⟨1, s_iconst dL_law_1391 rfl, ⟨1, s_iadd dL_law_1392, ⟨1, s_iald dL_law_1393, ⟨1, s_aload_n dL_law_1394 rfl, ⟨2, s_iload dL_law_1395, ⟨1, s_iconst dL_law_1397 rfl, ⟨1, s_iadd dL_law_1398, ⟨1, s_iald dL_law_1399, ⟨1, s_aload_n dL_law_1400 rfl, ⟨2, s_iload dL_law_1401, ⟨1, s_iconst dL_law_1403 rfl, ⟨1, s_iadd dL_law_1404, ⟨1, s_iald dL_law_1405, ⟨1, s_aload_n dL_law_1406 rfl, ⟨2, s_iload dL_law_1407, ⟨1, s_iconst dL_law_1409 rfl, ⟨1, s_iadd dL_law_1410, ⟨1, s_iald dL_law_1411, ⟨1, s_aload_n dL_law_1412 rfl, ⟨2, s_iload dL_law_1413, ⟨1, s_iconst dL_law_1415 rfl, ⟨1, s_iadd dL_law_1416, ⟨1, s_iald dL_law_1417, ⟨1, s_aload_n dL_law_1418 rfl, rfl⟩⟩⟩⟩⟩⟩⟩⟩⟩⟩⟩⟩⟩⟩⟩⟩⟩⟩⟩⟩⟩⟩⟩⟩⟩⟩⟩, t_cs rfl mi_278 mok_278 rfl (fun As rest h hA hr => call_SX dL_law_1419 mok_278 (by decide) ⟨by decide, by decide⟩ np_278 wt_1010 wt_1011 hA hr)⟩
theorem ok_291_185 : BkOK mi i_291 (bpf P_291) 185 (B_291.getD 185 bk0) := ⟨1455, ⟨2, s_istore dL_law_1422 (by decide), ⟨1, s_aload_n dL_law_1424 rfl, ⟨1, s_aload_n dL_law_1425 rfl, ⟨2, s_iload dL_law_1426, ⟨1, s_iconst dL_law_1428 rfl, ⟨1, s_iadd dL_law_1429, ⟨1, s_iald dL_law_1430, ⟨1, s_aload_n dL_law_1431 rfl, ⟨2, s_iload dL_law_1432, ⟨1, s_iconst dL_law_1434 rfl, ⟨1, s_iadd dL_law_1435, ⟨1, s_iald dL_law_1436, ⟨1, s_aload_n dL_law_1437 rfl, ⟨2, s_iload dL_law_1438, ⟨1, s_iconst dL_law_1440 rfl, ⟨1, s_iadd dL_law_1441, ⟨1, s_iald dL_law_1442, ⟨1, s_aload_n dL_law_1443 rfl, ⟨2, s_iload dL_law_1444, ⟨1, s_iconst dL_law_1446 rfl, ⟨1, s_iadd dL_law_1447, ⟨1, s_iald dL_law_1448, ⟨1, s_aload_n dL_law_1449 rfl, ⟨2, s_iload dL_law_1450, ⟨1, s_iconst dL_law_1452 rfl, ⟨1, s_iadd dL_law_1453, ⟨1, s_iald dL_law_1454, rfl⟩⟩⟩⟩⟩⟩⟩⟩⟩⟩⟩⟩⟩⟩⟩⟩⟩⟩⟩⟩⟩⟩⟩⟩⟩⟩⟩, t_cv rfl mi_250 mok_250 rfl (fun _ => ⟨rfl, by decide +kernel⟩) (fun hs' e => by cases e; intro E n b h; cases h) (fun q fs As rest h hp hA hr => (call_V (i := i_291) (j := i_250) (C := RX6) (T := TX6) (N := 30) dL_law_1455 mok_250 rfl ⟨by decide, by decide⟩ np_250 rfl rfl wt_1635 wt_1636 wt_1637 hp hA hr rfl).thr (fun _ => True.intro))⟩
theorem ok_291_186 : BkOK mi i_291 (bpf P_291) 186 (B_291.getD 186 bk0) := ⟨1461, ⟨2, s_istore dL_law_1458 (by decide), ⟨1, s_aload_n dL_law_1460 rfl, rfl⟩⟩, t_cv rfl mi_156 mok_156 rfl (fun _ => ⟨rfl, by decide +kernel⟩) (fun hs' e => by cases e; intro E n b h; cases h) (fun q fs As rest h hp hA hr => (call_V (i := i_291) (j := i_156) (C := RX6) (T := TX6) (N := 30) dL_law_1461 mok_156 rfl ⟨by decide, by decide⟩ np_156 rfl rfl wt_1249 wt_1250 wt_1251 hp hA hr rfl).thr (fun _ => True.intro))⟩
theorem ok_291_187 : BkOK mi i_291 (bpf P_291) 187 (B_291.getD 187 bk0) := ⟨1466, ⟨2, s_iload dL_law_1464, rfl⟩, t_eq dL_law_1466 (by decide) rfl⟩
theorem ok_291_188 : BkOK mi i_291 (bpf P_291) 188 (B_291.getD 188 bk0) := ⟨1470, ⟨1, s_iconst dL_law_1469 rfl, rfl⟩, t_retZ dL_law_1470 rfl⟩
theorem ok_291_189 : BkOK mi i_291 (bpf P_291) 189 (B_291.getD 189 bk0) := ⟨1473, ⟨2, s_iload dL_law_1471, rfl⟩, t_ne0 dL_law_1473 (by decide) rfl⟩
theorem ok_291_190 : BkOK mi i_291 (bpf P_291) 190 (B_291.getD 190 bk0) := ⟨1483, ⟨1, s_aload_n dL_law_1476 rfl, ⟨1, s_iconst dL_law_1477 rfl, ⟨1, s_laload dL_law_1478, ⟨2, s_iload dL_law_1479, ⟨1, s_i2l dL_law_1481, ⟨1, s_lcmp dL_law_1482, rfl⟩⟩⟩⟩⟩⟩, t_eq0 dL_law_1483 (by decide) rfl⟩
theorem ok_291_191 : BkOK mi i_291 (bpf P_291) 191 (B_291.getD 191 bk0) := ⟨1487, ⟨1, s_iconst dL_law_1486 rfl, rfl⟩, t_retZ dL_law_1487 rfl⟩
theorem ok_291_192 : BkOK mi i_291 (bpf P_291) 192 (B_291.getD 192 bk0) := ⟨1488, rfl, t_go dL_law_1488 (by decide)⟩
theorem ok_291_193 : BkOK mi i_291 (bpf P_291) 193 (B_291.getD 193 bk0) := ⟨1499, ⟨1, s_aload_n dL_law_1491 rfl, ⟨1, s_aload_n dL_law_1492 rfl, ⟨2, s_iload dL_law_1493, ⟨1, s_iconst dL_law_1495 rfl, ⟨1, s_iadd dL_law_1496, ⟨1, s_iald dL_law_1497, ⟨1, s_aload_n dL_law_1498 rfl, rfl⟩⟩⟩⟩⟩⟩⟩, t_cs rfl mi_279 mok_279 rfl (fun As rest h hA hr => call_SX dL_law_1499 mok_279 (by decide) ⟨by decide, by decide⟩ np_279 wt_1023 wt_1024 hA hr)⟩
theorem ok_291_194 : BkOK mi i_291 (bpf P_291) 194 (B_291.getD 194 bk0) := ⟨1511, ⟨2, s_istore dL_law_1502 (by decide), ⟨1, s_aload_n dL_law_1504 rfl, ⟨1, s_aload_n dL_law_1505 rfl, ⟨2, s_iload dL_law_1506, ⟨1, s_iconst dL_law_1508 rfl, ⟨1, s_iadd dL_law_1509, ⟨1, s_iald dL_law_1510, rfl⟩⟩⟩⟩⟩⟩⟩, t_cv rfl mi_251 mok_251 rfl (fun _ => ⟨rfl, by decide +kernel⟩) (fun hs' e => by cases e; intro E n b h; cases h) (fun q fs As rest h hp hA hr => (call_V (i := i_291) (j := i_251) (C := RX6) (T := TX6) (N := 30) dL_law_1511 mok_251 rfl ⟨by decide, by decide⟩ np_251 rfl rfl wt_1642 wt_1643 wt_1644 hp hA hr rfl).thr (fun _ => True.intro))⟩
theorem ok_291_195 : BkOK mi i_291 (bpf P_291) 195 (B_291.getD 195 bk0) := ⟨1517, ⟨2, s_istore dL_law_1514 (by decide), ⟨1, s_aload_n dL_law_1516 rfl, rfl⟩⟩, t_cv rfl mi_156 mok_156 rfl (fun _ => ⟨rfl, by decide +kernel⟩) (fun hs' e => by cases e; intro E n b h; cases h) (fun q fs As rest h hp hA hr => (call_V (i := i_291) (j := i_156) (C := RX6) (T := TX6) (N := 30) dL_law_1517 mok_156 rfl ⟨by decide, by decide⟩ np_156 rfl rfl wt_1249 wt_1250 wt_1251 hp hA hr rfl).thr (fun _ => True.intro))⟩
theorem ok_291_196 : BkOK mi i_291 (bpf P_291) 196 (B_291.getD 196 bk0) := ⟨1522, ⟨2, s_iload dL_law_1520, rfl⟩, t_eq dL_law_1522 (by decide) rfl⟩
theorem ok_291_197 : BkOK mi i_291 (bpf P_291) 197 (B_291.getD 197 bk0) := ⟨1526, ⟨1, s_iconst dL_law_1525 rfl, rfl⟩, t_retZ dL_law_1526 rfl⟩
theorem ok_291_198 : BkOK mi i_291 (bpf P_291) 198 (B_291.getD 198 bk0) := ⟨1529, ⟨2, s_iload dL_law_1527, rfl⟩, t_ne0 dL_law_1529 (by decide) rfl⟩
theorem ok_291_199 : BkOK mi i_291 (bpf P_291) 199 (B_291.getD 199 bk0) := ⟨1539, ⟨1, s_aload_n dL_law_1532 rfl, ⟨1, s_iconst dL_law_1533 rfl, ⟨1, s_laload dL_law_1534, ⟨2, s_iload dL_law_1535, ⟨1, s_i2l dL_law_1537, ⟨1, s_lcmp dL_law_1538, rfl⟩⟩⟩⟩⟩⟩, t_eq0 dL_law_1539 (by decide) rfl⟩
theorem ok_291_200 : BkOK mi i_291 (bpf P_291) 200 (B_291.getD 200 bk0) := ⟨1543, ⟨1, s_iconst dL_law_1542 rfl, rfl⟩, t_retZ dL_law_1543 rfl⟩
theorem ok_291_201 : BkOK mi i_291 (bpf P_291) 201 (B_291.getD 201 bk0) := ⟨1544, rfl, t_go dL_law_1544 (by decide)⟩
theorem ok_291_202 : BkOK mi i_291 (bpf P_291) 202 (B_291.getD 202 bk0) := ⟨1561, ⟨1, s_aload_n dL_law_1547 rfl, ⟨1, s_aload_n dL_law_1548 rfl, ⟨2, s_iload dL_law_1549, ⟨1, s_iconst dL_law_1551 rfl, ⟨1, s_iadd dL_law_1552, ⟨1, s_iald dL_law_1553, ⟨1, s_aload_n dL_law_1554 rfl, ⟨2, s_iload dL_law_1555, ⟨1, s_iconst dL_law_1557 rfl, ⟨1, s_iadd dL_law_1558, ⟨1, s_iald dL_law_1559, ⟨1, s_aload_n dL_law_1560 rfl, rfl⟩⟩⟩⟩⟩⟩⟩⟩⟩⟩⟩⟩, t_cs rfl mi_280 mok_280 rfl (fun As rest h hA hr => call_SX dL_law_1561 mok_280 (by decide) ⟨by decide, by decide⟩ np_280 wt_1034 wt_1035 hA hr)⟩
theorem ok_291_203 : BkOK mi i_291 (bpf P_291) 203 (B_291.getD 203 bk0) := ⟨1579, ⟨2, s_istore dL_law_1564 (by decide), ⟨1, s_aload_n dL_law_1566 rfl, ⟨1, s_aload_n dL_law_1567 rfl, ⟨2, s_iload dL_law_1568, ⟨1, s_iconst dL_law_1570 rfl, ⟨1, s_iadd dL_law_1571, ⟨1, s_iald dL_law_1572, ⟨1, s_aload_n dL_law_1573 rfl, ⟨2, s_iload dL_law_1574, ⟨1, s_iconst dL_law_1576 rfl, ⟨1, s_iadd dL_law_1577, ⟨1, s_iald dL_law_1578, rfl⟩⟩⟩⟩⟩⟩⟩⟩⟩⟩⟩⟩, t_cv rfl mi_253 mok_253 rfl (fun _ => ⟨rfl, by decide +kernel⟩) (fun hs' e => by cases e; intro E n b h; cases h) (fun q fs As rest h hp hA hr => (call_V (i := i_291) (j := i_253) (C := RX6) (T := TX6) (N := 30) dL_law_1579 mok_253 rfl ⟨by decide, by decide⟩ np_253 rfl rfl wt_1646 wt_1647 wt_1648 hp hA hr rfl).thr (fun _ => True.intro))⟩
theorem ok_291_204 : BkOK mi i_291 (bpf P_291) 204 (B_291.getD 204 bk0) := ⟨1585, ⟨2, s_istore dL_law_1582 (by decide), ⟨1, s_aload_n dL_law_1584 rfl, rfl⟩⟩, t_cv rfl mi_156 mok_156 rfl (fun _ => ⟨rfl, by decide +kernel⟩) (fun hs' e => by cases e; intro E n b h; cases h) (fun q fs As rest h hp hA hr => (call_V (i := i_291) (j := i_156) (C := RX6) (T := TX6) (N := 30) dL_law_1585 mok_156 rfl ⟨by decide, by decide⟩ np_156 rfl rfl wt_1249 wt_1250 wt_1251 hp hA hr rfl).thr (fun _ => True.intro))⟩
theorem ok_291_205 : BkOK mi i_291 (bpf P_291) 205 (B_291.getD 205 bk0) := ⟨1590, ⟨2, s_iload dL_law_1588, rfl⟩, t_eq dL_law_1590 (by decide) rfl⟩
theorem ok_291_206 : BkOK mi i_291 (bpf P_291) 206 (B_291.getD 206 bk0) := ⟨1594, ⟨1, s_iconst dL_law_1593 rfl, rfl⟩, t_retZ dL_law_1594 rfl⟩
theorem ok_291_207 : BkOK mi i_291 (bpf P_291) 207 (B_291.getD 207 bk0) := ⟨1597, ⟨2, s_iload dL_law_1595, rfl⟩, t_ne0 dL_law_1597 (by decide) rfl⟩
theorem ok_291_208 : BkOK mi i_291 (bpf P_291) 208 (B_291.getD 208 bk0) := ⟨1607, ⟨1, s_aload_n dL_law_1600 rfl, ⟨1, s_iconst dL_law_1601 rfl, ⟨1, s_laload dL_law_1602, ⟨2, s_iload dL_law_1603, ⟨1, s_i2l dL_law_1605, ⟨1, s_lcmp dL_law_1606, rfl⟩⟩⟩⟩⟩⟩, t_eq0 dL_law_1607 (by decide) rfl⟩
theorem ok_291_209 : BkOK mi i_291 (bpf P_291) 209 (B_291.getD 209 bk0) := ⟨1611, ⟨1, s_iconst dL_law_1610 rfl, rfl⟩, t_retZ dL_law_1611 rfl⟩
theorem ok_291_210 : BkOK mi i_291 (bpf P_291) 210 (B_291.getD 210 bk0) := ⟨1612, rfl, t_go dL_law_1612 (by decide)⟩
theorem ok_291_211 : BkOK mi i_291 (bpf P_291) 211 (B_291.getD 211 bk0) := ⟨1640, ⟨1, s_aload_n dL_law_1615 rfl, ⟨1, s_aload_n dL_law_1616 rfl, ⟨2, s_iload dL_law_1617, ⟨1, s_iconst dL_law_1619 rfl, ⟨1, s_iadd dL_law_1620, ⟨1, s_iald dL_law_1621, ⟨1, s_aload_n dL_law_1622 rfl, ⟨2, s_iload dL_law_1623, ⟨1, s_iconst dL_law_1625 rfl, ⟨1, s_iadd dL_law_1626, ⟨1, s_iald dL_law_1627, ⟨1, s_aload_n dL_law_1628 rfl, ⟨2, s_iload dL_law_1629, ⟨1, s_iconst dL_law_1631 rfl, ⟨1, s_iadd dL_law_1632, ⟨1, s_iald dL_law_1633, ⟨1, s_aload_n dL_law_1634 rfl, ⟨2, s_iload dL_law_1635, ⟨1, s_iconst dL_law_1637 rfl, ⟨1, s_iadd dL_law_1638, ⟨1, s_iald dL_law_1639, rfl⟩⟩⟩⟩⟩⟩⟩⟩⟩⟩⟩⟩⟩⟩⟩⟩⟩⟩⟩⟩⟩, t_eq0 dL_law_1640 (by decide) rfl⟩
theorem ok_291_212 : BkOK mi i_291 (bpf P_291) 212 (B_291.getD 212 bk0) := ⟨1644, ⟨1, s_iconst dL_law_1643 rfl, rfl⟩, t_go dL_law_1644 (by decide)⟩
theorem ok_291_213 : BkOK mi i_291 (bpf P_291) 213 (B_291.getD 213 bk0) := ⟨1648, ⟨1, s_iconst dL_law_1647 rfl, rfl⟩, t_fall rfl⟩
theorem ok_291_214 : BkOK mi i_291 (bpf P_291) 214 (B_291.getD 214 bk0) := ⟨1649, ⟨1, s_aload_n dL_law_1648 rfl, rfl⟩, t_cs rfl mi_281 mok_281 rfl (fun As rest h hA hr => call_SX dL_law_1649 mok_281 (by decide) ⟨by decide, by decide⟩ np_281 wt_1041 wt_1042 hA hr)⟩
theorem ok_291_215 : BkOK mi i_291 (bpf P_291) 215 (B_291.getD 215 bk0) := ⟨1679, ⟨2, s_istore dL_law_1652 (by decide), ⟨1, s_aload_n dL_law_1654 rfl, ⟨1, s_aload_n dL_law_1655 rfl, ⟨2, s_iload dL_law_1656, ⟨1, s_iconst dL_law_1658 rfl, ⟨1, s_iadd dL_law_1659, ⟨1, s_iald dL_law_1660, ⟨1, s_aload_n dL_law_1661 rfl, ⟨2, s_iload dL_law_1662, ⟨1, s_iconst dL_law_1664 rfl, ⟨1, s_iadd dL_law_1665, ⟨1, s_iald dL_law_1666, ⟨1, s_aload_n dL_law_1667 rfl, ⟨2, s_iload dL_law_1668, ⟨1, s_iconst dL_law_1670 rfl, ⟨1, s_iadd dL_law_1671, ⟨1, s_iald dL_law_1672, ⟨1, s_aload_n dL_law_1673 rfl, ⟨2, s_iload dL_law_1674, ⟨1, s_iconst dL_law_1676 rfl, ⟨1, s_iadd dL_law_1677, ⟨1, s_iald dL_law_1678, rfl⟩⟩⟩⟩⟩⟩⟩⟩⟩⟩⟩⟩⟩⟩⟩⟩⟩⟩⟩⟩⟩⟩, t_eq0 dL_law_1679 (by decide) rfl⟩
theorem ok_291_216 : BkOK mi i_291 (bpf P_291) 216 (B_291.getD 216 bk0) := ⟨1683, ⟨1, s_iconst dL_law_1682 rfl, rfl⟩, t_go dL_law_1683 (by decide)⟩
theorem ok_291_217 : BkOK mi i_291 (bpf P_291) 217 (B_291.getD 217 bk0) := ⟨1687, ⟨1, s_iconst dL_law_1686 rfl, rfl⟩, t_fall rfl⟩
theorem ok_291_218 : BkOK mi i_291 (bpf P_291) 218 (B_291.getD 218 bk0) := ⟨1687, rfl, t_cv rfl mi_254 mok_254 rfl (fun _ => ⟨rfl, by decide +kernel⟩) (fun hs' e => by cases e; intro E n b h; cases h) (fun q fs As rest h hp hA hr => (call_V (i := i_291) (j := i_254) (C := RX6) (T := TX6) (N := 30) dL_law_1687 mok_254 rfl ⟨by decide, by decide⟩ np_254 rfl rfl wt_1654 wt_1655 wt_1656 hp hA hr rfl).thr (fun _ => True.intro))⟩
theorem ok_291_219 : BkOK mi i_291 (bpf P_291) 219 (B_291.getD 219 bk0) := ⟨1693, ⟨2, s_istore dL_law_1690 (by decide), ⟨1, s_aload_n dL_law_1692 rfl, rfl⟩⟩, t_cv rfl mi_156 mok_156 rfl (fun _ => ⟨rfl, by decide +kernel⟩) (fun hs' e => by cases e; intro E n b h; cases h) (fun q fs As rest h hp hA hr => (call_V (i := i_291) (j := i_156) (C := RX6) (T := TX6) (N := 30) dL_law_1693 mok_156 rfl ⟨by decide, by decide⟩ np_156 rfl rfl wt_1249 wt_1250 wt_1251 hp hA hr rfl).thr (fun _ => True.intro))⟩
theorem ok_291_220 : BkOK mi i_291 (bpf P_291) 220 (B_291.getD 220 bk0) := ⟨1698, ⟨2, s_iload dL_law_1696, rfl⟩, t_eq dL_law_1698 (by decide) rfl⟩
theorem ok_291_221 : BkOK mi i_291 (bpf P_291) 221 (B_291.getD 221 bk0) := ⟨1702, ⟨1, s_iconst dL_law_1701 rfl, rfl⟩, t_retZ dL_law_1702 rfl⟩
theorem ok_291_222 : BkOK mi i_291 (bpf P_291) 222 (B_291.getD 222 bk0) := ⟨1705, ⟨2, s_iload dL_law_1703, rfl⟩, t_ne0 dL_law_1705 (by decide) rfl⟩
theorem ok_291_223 : BkOK mi i_291 (bpf P_291) 223 (B_291.getD 223 bk0) := ⟨1715, ⟨1, s_aload_n dL_law_1708 rfl, ⟨1, s_iconst dL_law_1709 rfl, ⟨1, s_laload dL_law_1710, ⟨2, s_iload dL_law_1711, ⟨1, s_i2l dL_law_1713, ⟨1, s_lcmp dL_law_1714, rfl⟩⟩⟩⟩⟩⟩, t_eq0 dL_law_1715 (by decide) rfl⟩
theorem ok_291_224 : BkOK mi i_291 (bpf P_291) 224 (B_291.getD 224 bk0) := ⟨1719, ⟨1, s_iconst dL_law_1718 rfl, rfl⟩, t_retZ dL_law_1719 rfl⟩
theorem ok_291_225 : BkOK mi i_291 (bpf P_291) 225 (B_291.getD 225 bk0) := ⟨1720, rfl, t_go dL_law_1720 (by decide)⟩
theorem ok_291_226 : BkOK mi i_291 (bpf P_291) 226 (B_291.getD 226 bk0) := ⟨1737, ⟨1, s_aload_n dL_law_1723 rfl, ⟨1, s_aload_n dL_law_1724 rfl, ⟨2, s_iload dL_law_1725, ⟨1, s_iconst dL_law_1727 rfl, ⟨1, s_iadd dL_law_1728, ⟨1, s_iald dL_law_1729, ⟨1, s_aload_n dL_law_1730 rfl, ⟨2, s_iload dL_law_1731, ⟨1, s_iconst dL_law_1733 rfl, ⟨1, s_iadd dL_law_1734, ⟨1, s_iald dL_law_1735, ⟨1, s_aload_n dL_law_1736 rfl, rfl⟩⟩⟩⟩⟩⟩⟩⟩⟩⟩⟩⟩, t_cs rfl mi_282 mok_282 rfl (fun As rest h hA hr => call_SX dL_law_1737 mok_282 (by decide) ⟨by decide, by decide⟩ np_282 wt_1049 wt_1050 hA hr)⟩
theorem ok_291_227 : BkOK mi i_291 (bpf P_291) 227 (B_291.getD 227 bk0) := ⟨1755, ⟨2, s_istore dL_law_1740 (by decide), ⟨1, s_aload_n dL_law_1742 rfl, ⟨1, s_aload_n dL_law_1743 rfl, ⟨2, s_iload dL_law_1744, ⟨1, s_iconst dL_law_1746 rfl, ⟨1, s_iadd dL_law_1747, ⟨1, s_iald dL_law_1748, ⟨1, s_aload_n dL_law_1749 rfl, ⟨2, s_iload dL_law_1750, ⟨1, s_iconst dL_law_1752 rfl, ⟨1, s_iadd dL_law_1753, ⟨1, s_iald dL_law_1754, rfl⟩⟩⟩⟩⟩⟩⟩⟩⟩⟩⟩⟩, t_cv rfl mi_255 mok_255 rfl (fun _ => ⟨rfl, by decide +kernel⟩) (fun hs' e => by cases e; intro E n b h; cases h) (fun q fs As rest h hp hA hr => (call_V (i := i_291) (j := i_255) (C := RX6) (T := TX6) (N := 30) dL_law_1755 mok_255 rfl ⟨by decide, by decide⟩ np_255 rfl rfl wt_1658 wt_1659 wt_1660 hp hA hr rfl).thr (fun _ => True.intro))⟩
theorem ok_291_228 : BkOK mi i_291 (bpf P_291) 228 (B_291.getD 228 bk0) := ⟨1761, ⟨2, s_istore dL_law_1758 (by decide), ⟨1, s_aload_n dL_law_1760 rfl, rfl⟩⟩, t_cv rfl mi_156 mok_156 rfl (fun _ => ⟨rfl, by decide +kernel⟩) (fun hs' e => by cases e; intro E n b h; cases h) (fun q fs As rest h hp hA hr => (call_V (i := i_291) (j := i_156) (C := RX6) (T := TX6) (N := 30) dL_law_1761 mok_156 rfl ⟨by decide, by decide⟩ np_156 rfl rfl wt_1249 wt_1250 wt_1251 hp hA hr rfl).thr (fun _ => True.intro))⟩
theorem ok_291_229 : BkOK mi i_291 (bpf P_291) 229 (B_291.getD 229 bk0) := ⟨1766, ⟨2, s_iload dL_law_1764, rfl⟩, t_eq dL_law_1766 (by decide) rfl⟩
theorem ok_291_230 : BkOK mi i_291 (bpf P_291) 230 (B_291.getD 230 bk0) := ⟨1770, ⟨1, s_iconst dL_law_1769 rfl, rfl⟩, t_retZ dL_law_1770 rfl⟩
theorem ok_291_231 : BkOK mi i_291 (bpf P_291) 231 (B_291.getD 231 bk0) := ⟨1773, ⟨2, s_iload dL_law_1771, rfl⟩, t_ne0 dL_law_1773 (by decide) rfl⟩
theorem ok_291_232 : BkOK mi i_291 (bpf P_291) 232 (B_291.getD 232 bk0) := ⟨1783, ⟨1, s_aload_n dL_law_1776 rfl, ⟨1, s_iconst dL_law_1777 rfl, ⟨1, s_laload dL_law_1778, ⟨2, s_iload dL_law_1779, ⟨1, s_i2l dL_law_1781, ⟨1, s_lcmp dL_law_1782, rfl⟩⟩⟩⟩⟩⟩, t_eq0 dL_law_1783 (by decide) rfl⟩
theorem ok_291_233 : BkOK mi i_291 (bpf P_291) 233 (B_291.getD 233 bk0) := ⟨1787, ⟨1, s_iconst dL_law_1786 rfl, rfl⟩, t_retZ dL_law_1787 rfl⟩
theorem ok_291_234 : BkOK mi i_291 (bpf P_291) 234 (B_291.getD 234 bk0) := ⟨1788, rfl, t_go dL_law_1788 (by decide)⟩
theorem ok_291_235 : BkOK mi i_291 (bpf P_291) 235 (B_291.getD 235 bk0) := ⟨1823, ⟨1, s_aload_n dL_law_1791 rfl, ⟨1, s_aload_n dL_law_1792 rfl, ⟨2, s_iload dL_law_1793, ⟨1, s_iconst dL_law_1795 rfl, ⟨1, s_iadd dL_law_1796, ⟨1, s_iald dL_law_1797, ⟨1, s_aload_n dL_law_1798 rfl, ⟨2, s_iload dL_law_1799, ⟨1, s_iconst dL_law_1801 rfl, ⟨1, s_iadd dL_law_1802, ⟨1, s_iald dL_law_1803, ⟨1, s_aload_n dL_law_1804 rfl, ⟨2, s_iload dL_law_1805, ⟨1, s_iconst dL_law_1807 rfl, ⟨1, s_iadd dL_law_1808, ⟨1, s_iald dL_law_1809, ⟨1, s_aload_n dL_law_1810 rfl, ⟨2, s_iload dL_law_1811, ⟨1, s_iconst dL_law_1813 rfl, ⟨1, s_iadd dL_law_1814, ⟨1, s_iald dL_law_1815, ⟨1, s_aload_n dL_law_1816 rfl, ⟨2, s_iload dL_law_1817, ⟨1, s_iconst dL_law_1819 rfl, ⟨1, s_iadd dL_law_1820, ⟨1, s_iald dL_law_1821, ⟨1, s_aload_n dL_law_1822 rfl, rfl⟩⟩⟩⟩⟩⟩⟩⟩⟩⟩⟩⟩⟩⟩⟩⟩⟩⟩⟩⟩⟩⟩⟩⟩⟩⟩⟩, t_cs rfl mi_283 mok_283 rfl (fun As rest h hA hr => call_SX dL_law_1823 mok_283 (by decide) ⟨by decide, by decide⟩ np_283 wt_1056 wt_1057 hA hr)⟩
theorem ok_291_236 : BkOK mi i_291 (bpf P_291) 236 (B_291.getD 236 bk0) := ⟨1859, ⟨2, s_istore dL_law_1826 (by decide), ⟨1, s_aload_n dL_law_1828 rfl, ⟨1, s_aload_n dL_law_1829 rfl, ⟨2, s_iload dL_law_1830, ⟨1, s_iconst dL_law_1832 rfl, ⟨1, s_iadd dL_law_1833, ⟨1, s_iald dL_law_1834, ⟨1, s_aload_n dL_law_1835 rfl, ⟨2, s_iload dL_law_1836, ⟨1, s_iconst dL_law_1838 rfl, ⟨1, s_iadd dL_law_1839, ⟨1, s_iald dL_law_1840, ⟨1, s_aload_n dL_law_1841 rfl, ⟨2, s_iload dL_law_1842, ⟨1, s_iconst dL_law_1844 rfl, ⟨1, s_iadd dL_law_1845, ⟨1, s_iald dL_law_1846, ⟨1, s_aload_n dL_law_1847 rfl, ⟨2, s_iload dL_law_1848, ⟨1, s_iconst dL_law_1850 rfl, ⟨1, s_iadd dL_law_1851, ⟨1, s_iald dL_law_1852, ⟨1, s_aload_n dL_law_1853 rfl, ⟨2, s_iload dL_law_1854, ⟨1, s_iconst dL_law_1856 rfl, ⟨1, s_iadd dL_law_1857, ⟨1, s_iald dL_law_1858, rfl⟩⟩⟩⟩⟩⟩⟩⟩⟩⟩⟩⟩⟩⟩⟩⟩⟩⟩⟩⟩⟩⟩⟩⟩⟩⟩⟩, t_cv rfl mi_256 mok_256 rfl (fun _ => ⟨rfl, by decide +kernel⟩) (fun hs' e => by cases e; intro E n b h; cases h) (fun q fs As rest h hp hA hr => (call_V (i := i_291) (j := i_256) (C := RX6) (T := TX6) (N := 30) dL_law_1859 mok_256 rfl ⟨by decide, by decide⟩ np_256 rfl rfl wt_1662 wt_1663 wt_1664 hp hA hr rfl).thr (fun _ => True.intro))⟩
theorem ok_291_237 : BkOK mi i_291 (bpf P_291) 237 (B_291.getD 237 bk0) := ⟨1865, ⟨2, s_istore dL_law_1862 (by decide), ⟨1, s_aload_n dL_law_1864 rfl, rfl⟩⟩, t_cv rfl mi_156 mok_156 rfl (fun _ => ⟨rfl, by decide +kernel⟩) (fun hs' e => by cases e; intro E n b h; cases h) (fun q fs As rest h hp hA hr => (call_V (i := i_291) (j := i_156) (C := RX6) (T := TX6) (N := 30) dL_law_1865 mok_156 rfl ⟨by decide, by decide⟩ np_156 rfl rfl wt_1249 wt_1250 wt_1251 hp hA hr rfl).thr (fun _ => True.intro))⟩
theorem ok_291_238 : BkOK mi i_291 (bpf P_291) 238 (B_291.getD 238 bk0) := ⟨1870, ⟨2, s_iload dL_law_1868, rfl⟩, t_eq dL_law_1870 (by decide) rfl⟩
theorem ok_291_239 : BkOK mi i_291 (bpf P_291) 239 (B_291.getD 239 bk0) := ⟨1874, ⟨1, s_iconst dL_law_1873 rfl, rfl⟩, t_retZ dL_law_1874 rfl⟩
theorem ok_291_240 : BkOK mi i_291 (bpf P_291) 240 (B_291.getD 240 bk0) := ⟨1877, ⟨2, s_iload dL_law_1875, rfl⟩, t_ne0 dL_law_1877 (by decide) rfl⟩
theorem ok_291_241 : BkOK mi i_291 (bpf P_291) 241 (B_291.getD 241 bk0) := ⟨1887, ⟨1, s_aload_n dL_law_1880 rfl, ⟨1, s_iconst dL_law_1881 rfl, ⟨1, s_laload dL_law_1882, ⟨2, s_iload dL_law_1883, ⟨1, s_i2l dL_law_1885, ⟨1, s_lcmp dL_law_1886, rfl⟩⟩⟩⟩⟩⟩, t_eq0 dL_law_1887 (by decide) rfl⟩
theorem ok_291_242 : BkOK mi i_291 (bpf P_291) 242 (B_291.getD 242 bk0) := ⟨1891, ⟨1, s_iconst dL_law_1890 rfl, rfl⟩, t_retZ dL_law_1891 rfl⟩
theorem ok_291_243 : BkOK mi i_291 (bpf P_291) 243 (B_291.getD 243 bk0) := ⟨1892, rfl, t_go dL_law_1892 (by decide)⟩
theorem ok_291_244 : BkOK mi i_291 (bpf P_291) 244 (B_291.getD 244 bk0) := ⟨1902, ⟨1, s_aload_n dL_law_1895 rfl, ⟨1, s_aload_n dL_law_1896 rfl, ⟨2, s_iload dL_law_1897, ⟨1, s_iconst dL_law_1899 rfl, ⟨1, s_iadd dL_law_1900, ⟨1, s_iald dL_law_1901, rfl⟩⟩⟩⟩⟩⟩, t_eq0 dL_law_1902 (by decide) rfl⟩
theorem ok_291_245 : BkOK mi i_291 (bpf P_291) 245 (B_291.getD 245 bk0) := ⟨1906, ⟨1, s_iconst dL_law_1905 rfl, rfl⟩, t_go dL_law_1906 (by decide)⟩
theorem ok_291_246 : BkOK mi i_291 (bpf P_291) 246 (B_291.getD 246 bk0) := ⟨1910, ⟨1, s_iconst dL_law_1909 rfl, rfl⟩, t_fall rfl⟩
theorem ok_291_247 : BkOK mi i_291 (bpf P_291) 247 (B_291.getD 247 bk0) := ⟨1910, rfl, t_cv rfl mi_123 mok_123 rfl (fun _ => ⟨rfl, by decide +kernel⟩) (fun hs' e => by cases e; intro E n b h; cases h) (fun q fs As rest h hp hA hr => (call_V (i := i_291) (j := i_123) (C := RX5) (T := TX5) (N := 12) dL_law_1910 mok_123 rfl ⟨by decide, by decide⟩ np_123 rfl rfl wt_680 wt_681 wt_682 hp hA hr rfl).thr (fun _ => True.intro))⟩
theorem ok_291_248 : BkOK mi i_291 (bpf P_291) 248 (B_291.getD 248 bk0) := ⟨1920, ⟨1, s_aload_n dL_law_1913 rfl, ⟨1, s_aload_n dL_law_1914 rfl, ⟨2, s_iload dL_law_1915, ⟨1, s_iconst dL_law_1917 rfl, ⟨1, s_iadd dL_law_1918, ⟨1, s_iald dL_law_1919, rfl⟩⟩⟩⟩⟩⟩, t_eq0 dL_law_1920 (by decide) rfl⟩
theorem ok_291_249 : BkOK mi i_291 (bpf P_291) 249 (B_291.getD 249 bk0) := ⟨1924, ⟨1, s_iconst dL_law_1923 rfl, rfl⟩, t_go dL_law_1924 (by decide)⟩
theorem ok_291_250 : BkOK mi i_291 (bpf P_291) 250 (B_291.getD 250 bk0) := ⟨1928, ⟨1, s_iconst dL_law_1927 rfl, rfl⟩, t_fall rfl⟩
theorem ok_291_251 : BkOK mi i_291 (bpf P_291) 251 (B_291.getD 251 bk0) := ⟨1928, rfl, t_cv rfl mi_257 mok_257 rfl (fun _ => ⟨rfl, by decide +kernel⟩) (fun hs' e => by cases e; intro E n b h; cases h) (fun q fs As rest h hp hA hr => (call_V (i := i_291) (j := i_257) (C := RX6) (T := TX6) (N := 30) dL_law_1928 mok_257 rfl ⟨by decide, by decide⟩ np_257 rfl rfl wt_1666 wt_1667 wt_1668 hp hA hr rfl).thr (fun _ => True.intro))⟩
theorem ok_291_252 : BkOK mi i_291 (bpf P_291) 252 (B_291.getD 252 bk0) := ⟨1931, rfl, t_eq dL_law_1931 (by decide) rfl⟩
theorem ok_291_253 : BkOK mi i_291 (bpf P_291) 253 (B_291.getD 253 bk0) := ⟨1935, ⟨1, s_iconst dL_law_1934 rfl, rfl⟩, t_retZ dL_law_1935 rfl⟩
theorem ok_291_254 : BkOK mi i_291 (bpf P_291) 254 (B_291.getD 254 bk0) := ⟨1944, ⟨1, s_aload_n dL_law_1936 rfl, ⟨1, s_aload_n dL_law_1937 rfl, ⟨2, s_iload dL_law_1938, ⟨1, s_iconst dL_law_1940 rfl, ⟨1, s_iadd dL_law_1941, ⟨1, s_iald dL_law_1942, ⟨1, s_aload_n dL_law_1943 rfl, rfl⟩⟩⟩⟩⟩⟩⟩, t_cs rfl mi_284 mok_284 rfl (fun As rest h hA hr => call_SX dL_law_1944 mok_284 (by decide) ⟨by decide, by decide⟩ np_284 wt_1064 wt_1065 hA hr)⟩
theorem ok_291_255 : BkOK mi i_291 (bpf P_291) 255 (B_291.getD 255 bk0) := ⟨1956, ⟨2, s_istore dL_law_1947 (by decide), ⟨1, s_aload_n dL_law_1949 rfl, ⟨1, s_aload_n dL_law_1950 rfl, ⟨2, s_iload dL_law_1951, ⟨1, s_iconst dL_law_1953 rfl, ⟨1, s_iadd dL_law_1954, ⟨1, s_iald dL_law_1955, rfl⟩⟩⟩⟩⟩⟩⟩, t_cv rfl mi_258 mok_258 rfl (fun _ => ⟨rfl, by decide +kernel⟩) (fun hs' e => by cases e; intro E n b h; cases h) (fun q fs As rest h hp hA hr => (call_V (i := i_291) (j := i_258) (C := RX6) (T := TX6) (N := 30) dL_law_1956 mok_258 rfl ⟨by decide, by decide⟩ np_258 rfl rfl wt_1670 wt_1671 wt_1672 hp hA hr rfl).thr (fun _ => True.intro))⟩
theorem ok_291_256 : BkOK mi i_291 (bpf P_291) 256 (B_291.getD 256 bk0) := ⟨1962, ⟨2, s_istore dL_law_1959 (by decide), ⟨1, s_aload_n dL_law_1961 rfl, rfl⟩⟩, t_cv rfl mi_156 mok_156 rfl (fun _ => ⟨rfl, by decide +kernel⟩) (fun hs' e => by cases e; intro E n b h; cases h) (fun q fs As rest h hp hA hr => (call_V (i := i_291) (j := i_156) (C := RX6) (T := TX6) (N := 30) dL_law_1962 mok_156 rfl ⟨by decide, by decide⟩ np_156 rfl rfl wt_1249 wt_1250 wt_1251 hp hA hr rfl).thr (fun _ => True.intro))⟩
theorem ok_291_257 : BkOK mi i_291 (bpf P_291) 257 (B_291.getD 257 bk0) := ⟨1967, ⟨2, s_iload dL_law_1965, rfl⟩, t_eq dL_law_1967 (by decide) rfl⟩
theorem ok_291_258 : BkOK mi i_291 (bpf P_291) 258 (B_291.getD 258 bk0) := ⟨1971, ⟨1, s_iconst dL_law_1970 rfl, rfl⟩, t_retZ dL_law_1971 rfl⟩
theorem ok_291_259 : BkOK mi i_291 (bpf P_291) 259 (B_291.getD 259 bk0) := ⟨1974, ⟨2, s_iload dL_law_1972, rfl⟩, t_ne0 dL_law_1974 (by decide) rfl⟩
theorem ok_291_260 : BkOK mi i_291 (bpf P_291) 260 (B_291.getD 260 bk0) := ⟨1984, ⟨1, s_aload_n dL_law_1977 rfl, ⟨1, s_iconst dL_law_1978 rfl, ⟨1, s_laload dL_law_1979, ⟨2, s_iload dL_law_1980, ⟨1, s_i2l dL_law_1982, ⟨1, s_lcmp dL_law_1983, rfl⟩⟩⟩⟩⟩⟩, t_eq0 dL_law_1984 (by decide) rfl⟩
theorem ok_291_261 : BkOK mi i_291 (bpf P_291) 261 (B_291.getD 261 bk0) := ⟨1988, ⟨1, s_iconst dL_law_1987 rfl, rfl⟩, t_retZ dL_law_1988 rfl⟩
theorem ok_291_262 : BkOK mi i_291 (bpf P_291) 262 (B_291.getD 262 bk0) := ⟨1989, rfl, t_go dL_law_1989 (by decide)⟩
theorem ok_291_263 : BkOK mi i_291 (bpf P_291) 263 (B_291.getD 263 bk0) := ⟨1994, ⟨1, s_aload_n dL_law_1992 rfl, ⟨1, s_aload_n dL_law_1993 rfl, rfl⟩⟩, t_cs rfl mi_285 mok_285 rfl (fun As rest h hA hr => call_SX dL_law_1994 mok_285 (by decide) ⟨by decide, by decide⟩ np_285 wt_1075 wt_1076 hA hr)⟩
theorem ok_291_264 : BkOK mi i_291 (bpf P_291) 264 (B_291.getD 264 bk0) := ⟨2000, ⟨2, s_istore dL_law_1997 (by decide), ⟨1, s_aload_n dL_law_1999 rfl, rfl⟩⟩, t_cv rfl mi_259 mok_259 rfl (fun _ => ⟨rfl, by decide +kernel⟩) (fun hs' e => by cases e; intro E n b h; cases h) (fun q fs As rest h hp hA hr => (call_V (i := i_291) (j := i_259) (C := RX6) (T := TX6) (N := 30) dL_law_2000 mok_259 rfl ⟨by decide, by decide⟩ np_259 rfl rfl wt_1674 wt_1675 wt_1676 hp hA hr rfl).thr (fun _ => True.intro))⟩
theorem ok_291_265 : BkOK mi i_291 (bpf P_291) 265 (B_291.getD 265 bk0) := ⟨2006, ⟨2, s_istore dL_law_2003 (by decide), ⟨1, s_aload_n dL_law_2005 rfl, rfl⟩⟩, t_cv rfl mi_156 mok_156 rfl (fun _ => ⟨rfl, by decide +kernel⟩) (fun hs' e => by cases e; intro E n b h; cases h) (fun q fs As rest h hp hA hr => (call_V (i := i_291) (j := i_156) (C := RX6) (T := TX6) (N := 30) dL_law_2006 mok_156 rfl ⟨by decide, by decide⟩ np_156 rfl rfl wt_1249 wt_1250 wt_1251 hp hA hr rfl).thr (fun _ => True.intro))⟩
theorem ok_291_266 : BkOK mi i_291 (bpf P_291) 266 (B_291.getD 266 bk0) := ⟨2011, ⟨2, s_iload dL_law_2009, rfl⟩, t_eq dL_law_2011 (by decide) rfl⟩
theorem ok_291_267 : BkOK mi i_291 (bpf P_291) 267 (B_291.getD 267 bk0) := ⟨2015, ⟨1, s_iconst dL_law_2014 rfl, rfl⟩, t_retZ dL_law_2015 rfl⟩
theorem ok_291_268 : BkOK mi i_291 (bpf P_291) 268 (B_291.getD 268 bk0) := ⟨2018, ⟨2, s_iload dL_law_2016, rfl⟩, t_ne0 dL_law_2018 (by decide) rfl⟩
theorem ok_291_269 : BkOK mi i_291 (bpf P_291) 269 (B_291.getD 269 bk0) := ⟨2028, ⟨1, s_aload_n dL_law_2021 rfl, ⟨1, s_iconst dL_law_2022 rfl, ⟨1, s_laload dL_law_2023, ⟨2, s_iload dL_law_2024, ⟨1, s_i2l dL_law_2026, ⟨1, s_lcmp dL_law_2027, rfl⟩⟩⟩⟩⟩⟩, t_eq0 dL_law_2028 (by decide) rfl⟩
theorem ok_291_270 : BkOK mi i_291 (bpf P_291) 270 (B_291.getD 270 bk0) := ⟨2032, ⟨1, s_iconst dL_law_2031 rfl, rfl⟩, t_retZ dL_law_2032 rfl⟩
theorem ok_291_271 : BkOK mi i_291 (bpf P_291) 271 (B_291.getD 271 bk0) := ⟨2033, rfl, t_go dL_law_2033 (by decide)⟩
theorem ok_291_272 : BkOK mi i_291 (bpf P_291) 272 (B_291.getD 272 bk0) := ⟨2038, ⟨1, s_aload_n dL_law_2036 rfl, ⟨1, s_aload_n dL_law_2037 rfl, rfl⟩⟩, t_cs rfl mi_286 mok_286 rfl (fun As rest h hA hr => call_SX dL_law_2038 mok_286 (by decide) ⟨by decide, by decide⟩ np_286 wt_1082 wt_1083 hA hr)⟩
theorem ok_291_273 : BkOK mi i_291 (bpf P_291) 273 (B_291.getD 273 bk0) := ⟨2044, ⟨2, s_istore dL_law_2041 (by decide), ⟨1, s_aload_n dL_law_2043 rfl, rfl⟩⟩, t_cv rfl mi_160 mok_160 rfl (fun _ => ⟨rfl, by decide +kernel⟩) (fun hs' e => by cases e; intro E n b h; cases h) (fun q fs As rest h hp hA hr => (call_V (i := i_291) (j := i_160) (C := RX6) (T := TX6) (N := 30) dL_law_2044 mok_160 rfl ⟨by decide, by decide⟩ np_160 rfl rfl wt_1253 wt_1254 wt_1255 hp hA hr rfl).thr (fun _ => True.intro))⟩
theorem ok_291_274 : BkOK mi i_291 (bpf P_291) 274 (B_291.getD 274 bk0) := ⟨2050, ⟨2, s_istore dL_law_2047 (by decide), ⟨1, s_aload_n dL_law_2049 rfl, rfl⟩⟩, t_cv rfl mi_156 mok_156 rfl (fun _ => ⟨rfl, by decide +kernel⟩) (fun hs' e => by cases e; intro E n b h; cases h) (fun q fs As rest h hp hA hr => (call_V (i := i_291) (j := i_156) (C := RX6) (T := TX6) (N := 30) dL_law_2050 mok_156 rfl ⟨by decide, by decide⟩ np_156 rfl rfl wt_1249 wt_1250 wt_1251 hp hA hr rfl).thr (fun _ => True.intro))⟩
theorem ok_291_275 : BkOK mi i_291 (bpf P_291) 275 (B_291.getD 275 bk0) := ⟨2055, ⟨2, s_iload dL_law_2053, rfl⟩, t_eq dL_law_2055 (by decide) rfl⟩
theorem ok_291_276 : BkOK mi i_291 (bpf P_291) 276 (B_291.getD 276 bk0) := ⟨2059, ⟨1, s_iconst dL_law_2058 rfl, rfl⟩, t_retZ dL_law_2059 rfl⟩
theorem ok_291_277 : BkOK mi i_291 (bpf P_291) 277 (B_291.getD 277 bk0) := ⟨2062, ⟨2, s_iload dL_law_2060, rfl⟩, t_ne0 dL_law_2062 (by decide) rfl⟩
theorem ok_291_278 : BkOK mi i_291 (bpf P_291) 278 (B_291.getD 278 bk0) := ⟨2072, ⟨1, s_aload_n dL_law_2065 rfl, ⟨1, s_iconst dL_law_2066 rfl, ⟨1, s_laload dL_law_2067, ⟨2, s_iload dL_law_2068, ⟨1, s_i2l dL_law_2070, ⟨1, s_lcmp dL_law_2071, rfl⟩⟩⟩⟩⟩⟩, t_eq0 dL_law_2072 (by decide) rfl⟩
theorem ok_291_279 : BkOK mi i_291 (bpf P_291) 279 (B_291.getD 279 bk0) := ⟨2076, ⟨1, s_iconst dL_law_2075 rfl, rfl⟩, t_retZ dL_law_2076 rfl⟩
theorem ok_291_280 : BkOK mi i_291 (bpf P_291) 280 (B_291.getD 280 bk0) := ⟨2077, rfl, t_go dL_law_2077 (by decide)⟩
theorem ok_291_281 : BkOK mi i_291 (bpf P_291) 281 (B_291.getD 281 bk0) := ⟨2087, ⟨1, s_aload_n dL_law_2080 rfl, ⟨1, s_aload_n dL_law_2081 rfl, ⟨2, s_iload dL_law_2082, ⟨1, s_iconst dL_law_2084 rfl, ⟨1, s_iadd dL_law_2085, ⟨1, s_iald dL_law_2086, rfl⟩⟩⟩⟩⟩⟩, t_cs rfl mi_287 mok_287 rfl (fun As rest h hA hr => call_SX dL_law_2087 mok_287 (by decide) ⟨by decide, by decide⟩ np_287 wt_1093 wt_1094 hA hr)⟩
theorem ok_291_282 : BkOK mi i_291 (bpf P_291) 282 (B_291.getD 282 bk0) := ⟨2099, ⟨2, s_istore dL_law_2090 (by decide), ⟨1, s_aload_n dL_law_2092 rfl, ⟨1, s_aload_n dL_law_2093 rfl, ⟨2, s_iload dL_law_2094, ⟨1, s_iconst dL_law_2096 rfl, ⟨1, s_iadd dL_law_2097, ⟨1, s_iald dL_law_2098, rfl⟩⟩⟩⟩⟩⟩⟩, t_cv rfl mi_161 mok_161 rfl (fun _ => ⟨rfl, by decide +kernel⟩) (fun hs' e => by cases e; intro E n b h; cases h) (fun q fs As rest h hp hA hr => (call_V (i := i_291) (j := i_161) (C := RX6) (T := TX6) (N := 30) dL_law_2099 mok_161 rfl ⟨by decide, by decide⟩ np_161 rfl rfl wt_1260 wt_1261 wt_1262 hp hA hr rfl).thr (fun _ => True.intro))⟩
theorem ok_291_283 : BkOK mi i_291 (bpf P_291) 283 (B_291.getD 283 bk0) := ⟨2103, ⟨1, s_aload_n dL_law_2102 rfl, rfl⟩, t_cv rfl mi_156 mok_156 rfl (fun _ => ⟨rfl, by decide +kernel⟩) (fun hs' e => by cases e; intro E n b h; cases h) (fun q fs As rest h hp hA hr => (call_V (i := i_291) (j := i_156) (C := RX6) (T := TX6) (N := 30) dL_law_2103 mok_156 rfl ⟨by decide, by decide⟩ np_156 rfl rfl wt_1249 wt_1250 wt_1251 hp hA hr rfl).thr (fun _ => True.intro))⟩
theorem ok_291_284 : BkOK mi i_291 (bpf P_291) 284 (B_291.getD 284 bk0) := ⟨2108, ⟨2, s_iload dL_law_2106, rfl⟩, t_eq dL_law_2108 (by decide) rfl⟩
theorem ok_291_285 : BkOK mi i_291 (bpf P_291) 285 (B_291.getD 285 bk0) := ⟨2112, ⟨1, s_iconst dL_law_2111 rfl, rfl⟩, t_retZ dL_law_2112 rfl⟩
theorem ok_291_286 : BkOK mi i_291 (bpf P_291) 286 (B_291.getD 286 bk0) := ⟨2113, rfl, t_go dL_law_2113 (by decide)⟩
theorem ok_291_287 : BkOK mi i_291 (bpf P_291) 287 (B_291.getD 287 bk0) := ⟨2124, ⟨1, s_aload_n dL_law_2116 rfl, ⟨1, s_aload_n dL_law_2117 rfl, ⟨2, s_iload dL_law_2118, ⟨1, s_iconst dL_law_2120 rfl, ⟨1, s_iadd dL_law_2121, ⟨1, s_iald dL_law_2122, ⟨1, s_aload_n dL_law_2123 rfl, rfl⟩⟩⟩⟩⟩⟩⟩, t_cs rfl mi_288 mok_288 rfl (fun As rest h hA hr => call_SX dL_law_2124 mok_288 (by decide) ⟨by decide, by decide⟩ np_288 wt_1104 wt_1105 hA hr)⟩
theorem ok_291_288 : BkOK mi i_291 (bpf P_291) 288 (B_291.getD 288 bk0) := ⟨2136, ⟨2, s_istore dL_law_2127 (by decide), ⟨1, s_aload_n dL_law_2129 rfl, ⟨1, s_aload_n dL_law_2130 rfl, ⟨2, s_iload dL_law_2131, ⟨1, s_iconst dL_law_2133 rfl, ⟨1, s_iadd dL_law_2134, ⟨1, s_iald dL_law_2135, rfl⟩⟩⟩⟩⟩⟩⟩, t_cv rfl mi_162 mok_162 rfl (fun _ => ⟨rfl, by decide +kernel⟩) (fun hs' e => by cases e; intro E n b h; cases h) (fun q fs As rest h hp hA hr => (call_V (i := i_291) (j := i_162) (C := RX6) (T := TX6) (N := 30) dL_law_2136 mok_162 rfl ⟨by decide, by decide⟩ np_162 rfl rfl wt_1267 wt_1268 wt_1269 hp hA hr rfl).thr (fun _ => True.intro))⟩
theorem ok_291_289 : BkOK mi i_291 (bpf P_291) 289 (B_291.getD 289 bk0) := ⟨2142, ⟨2, s_istore dL_law_2139 (by decide), ⟨1, s_aload_n dL_law_2141 rfl, rfl⟩⟩, t_cv rfl mi_156 mok_156 rfl (fun _ => ⟨rfl, by decide +kernel⟩) (fun hs' e => by cases e; intro E n b h; cases h) (fun q fs As rest h hp hA hr => (call_V (i := i_291) (j := i_156) (C := RX6) (T := TX6) (N := 30) dL_law_2142 mok_156 rfl ⟨by decide, by decide⟩ np_156 rfl rfl wt_1249 wt_1250 wt_1251 hp hA hr rfl).thr (fun _ => True.intro))⟩
theorem ok_291_290 : BkOK mi i_291 (bpf P_291) 290 (B_291.getD 290 bk0) := ⟨2147, ⟨2, s_iload dL_law_2145, rfl⟩, t_eq dL_law_2147 (by decide) rfl⟩
theorem ok_291_291 : BkOK mi i_291 (bpf P_291) 291 (B_291.getD 291 bk0) := ⟨2151, ⟨1, s_iconst dL_law_2150 rfl, rfl⟩, t_retZ dL_law_2151 rfl⟩
theorem ok_291_292 : BkOK mi i_291 (bpf P_291) 292 (B_291.getD 292 bk0) := ⟨2154, ⟨2, s_iload dL_law_2152, rfl⟩, t_ne0 dL_law_2154 (by decide) rfl⟩
theorem ok_291_293 : BkOK mi i_291 (bpf P_291) 293 (B_291.getD 293 bk0) := ⟨2164, ⟨1, s_aload_n dL_law_2157 rfl, ⟨1, s_iconst dL_law_2158 rfl, ⟨1, s_laload dL_law_2159, ⟨2, s_iload dL_law_2160, ⟨1, s_i2l dL_law_2162, ⟨1, s_lcmp dL_law_2163, rfl⟩⟩⟩⟩⟩⟩, t_eq0 dL_law_2164 (by decide) rfl⟩
theorem ok_291_294 : BkOK mi i_291 (bpf P_291) 294 (B_291.getD 294 bk0) := ⟨2168, ⟨1, s_iconst dL_law_2167 rfl, rfl⟩, t_retZ dL_law_2168 rfl⟩
theorem ok_291_295 : BkOK mi i_291 (bpf P_291) 295 (B_291.getD 295 bk0) := ⟨2169, rfl, t_go dL_law_2169 (by decide)⟩
theorem ok_291_296 : BkOK mi i_291 (bpf P_291) 296 (B_291.getD 296 bk0) := ⟨2174, ⟨1, s_aload_n dL_law_2172 rfl, ⟨1, s_aload_n dL_law_2173 rfl, rfl⟩⟩, t_cs rfl mi_289 mok_289 rfl (fun As rest h hA hr => call_SX dL_law_2174 mok_289 (by decide) ⟨by decide, by decide⟩ np_289 wt_1115 wt_1116 hA hr)⟩
theorem ok_291_297 : BkOK mi i_291 (bpf P_291) 297 (B_291.getD 297 bk0) := ⟨2180, ⟨2, s_istore dL_law_2177 (by decide), ⟨1, s_aload_n dL_law_2179 rfl, rfl⟩⟩, t_cv rfl mi_261 mok_261 rfl (fun _ => ⟨rfl, by decide +kernel⟩) (fun hs' e => by cases e; intro E n b h; cases h) (fun q fs As rest h hp hA hr => (call_V (i := i_291) (j := i_261) (C := RX6) (T := TX6) (N := 30) dL_law_2180 mok_261 rfl ⟨by decide, by decide⟩ np_261 rfl rfl wt_1678 wt_1679 wt_1680 hp hA hr rfl).thr (fun _ => True.intro))⟩
theorem ok_291_298 : BkOK mi i_291 (bpf P_291) 298 (B_291.getD 298 bk0) := ⟨2186, ⟨2, s_istore dL_law_2183 (by decide), ⟨1, s_aload_n dL_law_2185 rfl, rfl⟩⟩, t_cv rfl mi_156 mok_156 rfl (fun _ => ⟨rfl, by decide +kernel⟩) (fun hs' e => by cases e; intro E n b h; cases h) (fun q fs As rest h hp hA hr => (call_V (i := i_291) (j := i_156) (C := RX6) (T := TX6) (N := 30) dL_law_2186 mok_156 rfl ⟨by decide, by decide⟩ np_156 rfl rfl wt_1249 wt_1250 wt_1251 hp hA hr rfl).thr (fun _ => True.intro))⟩
theorem ok_291_299 : BkOK mi i_291 (bpf P_291) 299 (B_291.getD 299 bk0) := ⟨2191, ⟨2, s_iload dL_law_2189, rfl⟩, t_eq dL_law_2191 (by decide) rfl⟩
theorem ok_291_300 : BkOK mi i_291 (bpf P_291) 300 (B_291.getD 300 bk0) := ⟨2195, ⟨1, s_iconst dL_law_2194 rfl, rfl⟩, t_retZ dL_law_2195 rfl⟩
theorem ok_291_301 : BkOK mi i_291 (bpf P_291) 301 (B_291.getD 301 bk0) := ⟨2198, ⟨2, s_iload dL_law_2196, rfl⟩, t_ne0 dL_law_2198 (by decide) rfl⟩
theorem ok_291_302 : BkOK mi i_291 (bpf P_291) 302 (B_291.getD 302 bk0) := ⟨2208, ⟨1, s_aload_n dL_law_2201 rfl, ⟨1, s_iconst dL_law_2202 rfl, ⟨1, s_laload dL_law_2203, ⟨2, s_iload dL_law_2204, ⟨1, s_i2l dL_law_2206, ⟨1, s_lcmp dL_law_2207, rfl⟩⟩⟩⟩⟩⟩, t_eq0 dL_law_2208 (by decide) rfl⟩
theorem ok_291_303 : BkOK mi i_291 (bpf P_291) 303 (B_291.getD 303 bk0) := ⟨2212, ⟨1, s_iconst dL_law_2211 rfl, rfl⟩, t_retZ dL_law_2212 rfl⟩
theorem ok_291_304 : BkOK mi i_291 (bpf P_291) 304 (B_291.getD 304 bk0) := ⟨2213, rfl, t_go dL_law_2213 (by decide)⟩
theorem ok_291_305 : BkOK mi i_291 (bpf P_291) 305 (B_291.getD 305 bk0) := ⟨2224, ⟨1, s_aload_n dL_law_2216 rfl, ⟨1, s_aload_n dL_law_2217 rfl, ⟨2, s_iload dL_law_2218, ⟨1, s_iconst dL_law_2220 rfl, ⟨1, s_iadd dL_law_2221, ⟨1, s_iald dL_law_2222, ⟨1, s_aload_n dL_law_2223 rfl, rfl⟩⟩⟩⟩⟩⟩⟩, t_cs rfl mi_290 mok_290 rfl (fun As rest h hA hr => call_SX dL_law_2224 mok_290 (by decide) ⟨by decide, by decide⟩ np_290 wt_1127 wt_1128 hA hr)⟩
theorem ok_291_306 : BkOK mi i_291 (bpf P_291) 306 (B_291.getD 306 bk0) := ⟨2236, ⟨2, s_istore dL_law_2227 (by decide), ⟨1, s_aload_n dL_law_2229 rfl, ⟨1, s_aload_n dL_law_2230 rfl, ⟨2, s_iload dL_law_2231, ⟨1, s_iconst dL_law_2233 rfl, ⟨1, s_iadd dL_law_2234, ⟨1, s_iald dL_law_2235, rfl⟩⟩⟩⟩⟩⟩⟩, t_cv rfl mi_262 mok_262 rfl (fun _ => ⟨rfl, by decide +kernel⟩) (fun hs' e => by cases e; intro E n b h; cases h) (fun q fs As rest h hp hA hr => (call_V (i := i_291) (j := i_262) (C := RX6) (T := TX6) (N := 30) dL_law_2236 mok_262 rfl ⟨by decide, by decide⟩ np_262 rfl rfl wt_1686 wt_1687 wt_1688 hp hA hr rfl).thr (fun _ => True.intro))⟩
theorem ok_291_307 : BkOK mi i_291 (bpf P_291) 307 (B_291.getD 307 bk0) := ⟨2242, ⟨2, s_istore dL_law_2239 (by decide), ⟨1, s_aload_n dL_law_2241 rfl, rfl⟩⟩, t_cv rfl mi_156 mok_156 rfl (fun _ => ⟨rfl, by decide +kernel⟩) (fun hs' e => by cases e; intro E n b h; cases h) (fun q fs As rest h hp hA hr => (call_V (i := i_291) (j := i_156) (C := RX6) (T := TX6) (N := 30) dL_law_2242 mok_156 rfl ⟨by decide, by decide⟩ np_156 rfl rfl wt_1249 wt_1250 wt_1251 hp hA hr rfl).thr (fun _ => True.intro))⟩
theorem ok_291_308 : BkOK mi i_291 (bpf P_291) 308 (B_291.getD 308 bk0) := ⟨2247, ⟨2, s_iload dL_law_2245, rfl⟩, t_eq dL_law_2247 (by decide) rfl⟩
theorem ok_291_309 : BkOK mi i_291 (bpf P_291) 309 (B_291.getD 309 bk0) := ⟨2251, ⟨1, s_iconst dL_law_2250 rfl, rfl⟩, t_retZ dL_law_2251 rfl⟩
theorem ok_291_310 : BkOK mi i_291 (bpf P_291) 310 (B_291.getD 310 bk0) := ⟨2254, ⟨2, s_iload dL_law_2252, rfl⟩, t_ne0 dL_law_2254 (by decide) rfl⟩
theorem ok_291_311 : BkOK mi i_291 (bpf P_291) 311 (B_291.getD 311 bk0) := ⟨2264, ⟨1, s_aload_n dL_law_2257 rfl, ⟨1, s_iconst dL_law_2258 rfl, ⟨1, s_laload dL_law_2259, ⟨2, s_iload dL_law_2260, ⟨1, s_i2l dL_law_2262, ⟨1, s_lcmp dL_law_2263, rfl⟩⟩⟩⟩⟩⟩, t_eq0 dL_law_2264 (by decide) rfl⟩
theorem ok_291_312 : BkOK mi i_291 (bpf P_291) 312 (B_291.getD 312 bk0) := ⟨2268, ⟨1, s_iconst dL_law_2267 rfl, rfl⟩, t_retZ dL_law_2268 rfl⟩
theorem ok_291_313 : BkOK mi i_291 (bpf P_291) 313 (B_291.getD 313 bk0) := ⟨2269, rfl, t_go dL_law_2269 (by decide)⟩
theorem ok_291_314 : BkOK mi i_291 (bpf P_291) 314 (B_291.getD 314 bk0) := ⟨2275, ⟨3, s_iinc dL_law_2272 rfl (by decide), rfl⟩, t_go dL_law_2275 (by decide)⟩
theorem ok_291_315 : BkOK mi i_291 (bpf P_291) 315 (B_291.getD 315 bk0) := ⟨2279, ⟨1, s_iconst dL_law_2278 rfl, rfl⟩, t_retZ dL_law_2279 rfl⟩
theorem ok_291 : ∀ b, BkOK mi i_291 (bpf P_291) b (B_291.getD b bk0)
  | 0 => ok_291_0
  | 1 => ok_291_1
  | 2 => ok_291_2
  | 3 => ok_291_3
  | 4 => ok_291_4
  | 5 => ok_291_5
  | 6 => ok_291_6
  | 7 => ok_291_7
  | 8 => ok_291_8
  | 9 => ok_291_9
  | 10 => ok_291_10
  | 11 => ok_291_11
  | 12 => ok_291_12
  | 13 => ok_291_13
  | 14 => ok_291_14
  | 15 => ok_291_15
  | 16 => ok_291_16
  | 17 => ok_291_17
  | 18 => ok_291_18
  | 19 => ok_291_19
  | 20 => ok_291_20
  | 21 => ok_291_21
  | 22 => ok_291_22
  | 23 => ok_291_23
  | 24 => ok_291_24
  | 25 => ok_291_25
  | 26 => ok_291_26
  | 27 => ok_291_27
  | 28 => ok_291_28
  | 29 => ok_291_29
  | 30 => ok_291_30
  | 31 => ok_291_31
  | 32 => ok_291_32
  | 33 => ok_291_33
  | 34 => ok_291_34
  | 35 => ok_291_35
  | 36 => ok_291_36
  | 37 => ok_291_37
  | 38 => ok_291_38
  | 39 => ok_291_39
  | 40 => ok_291_40
  | 41 => ok_291_41
  | 42 => ok_291_42
  | 43 => ok_291_43
  | 44 => ok_291_44
  | 45 => ok_291_45
  | 46 => ok_291_46
  | 47 => ok_291_47
  | 48 => ok_291_48
  | 49 => ok_291_49
  | 50 => ok_291_50
  | 51 => ok_291_51
  | 52 => ok_291_52
  | 53 => ok_291_53
  | 54 => ok_291_54
  | 55 => ok_291_55
  | 56 => ok_291_56
  | 57 => ok_291_57
  | 58 => ok_291_58
  | 59 => ok_291_59
  | 60 => ok_291_60
  | 61 => ok_291_61
  | 62 => ok_291_62
  | 63 => ok_291_63
  | 64 => ok_291_64
  | 65 => ok_291_65
  | 66 => ok_291_66
  | 67 => ok_291_67
  | 68 => ok_291_68
  | 69 => ok_291_69
  | 70 => ok_291_70
  | 71 => ok_291_71
  | 72 => ok_291_72
  | 73 => ok_291_73
  | 74 => ok_291_74
  | 75 => ok_291_75
  | 76 => ok_291_76
  | 77 => ok_291_77
  | 78 => ok_291_78
  | 79 => ok_291_79
  | 80 => ok_291_80
  | 81 => ok_291_81
  | 82 => ok_291_82
  | 83 => ok_291_83
  | 84 => ok_291_84
  | 85 => ok_291_85
  | 86 => ok_291_86
  | 87 => ok_291_87
  | 88 => ok_291_88
  | 89 => ok_291_89
  | 90 => ok_291_90
  | 91 => ok_291_91
  | 92 => ok_291_92
  | 93 => ok_291_93
  | 94 => ok_291_94
  | 95 => ok_291_95
  | 96 => ok_291_96
  | 97 => ok_291_97
  | 98 => ok_291_98
  | 99 => ok_291_99
  | 100 => ok_291_100
  | 101 => ok_291_101
  | 102 => ok_291_102
  | 103 => ok_291_103
  | 104 => ok_291_104
  | 105 => ok_291_105
  | 106 => ok_291_106
  | 107 => ok_291_107
  | 108 => ok_291_108
  | 109 => ok_291_109
  | 110 => ok_291_110
  | 111 => ok_291_111
  | 112 => ok_291_112
  | 113 => ok_291_113
  | 114 => ok_291_114
  | 115 => ok_291_115
  | 116 => ok_291_116
  | 117 => ok_291_117
  | 118 => ok_291_118
  | 119 => ok_291_119
  | 120 => ok_291_120
  | 121 => ok_291_121
  | 122 => ok_291_122
  | 123 => ok_291_123
  | 124 => ok_291_124
  | 125 => ok_291_125
  | 126 => ok_291_126
  | 127 => ok_291_127
  | 128 => ok_291_128
  | 129 => ok_291_129
  | 130 => ok_291_130
  | 131 => ok_291_131
  | 132 => ok_291_132
  | 133 => ok_291_133
  | 134 => ok_291_134
  | 135 => ok_291_135
  | 136 => ok_291_136
  | 137 => ok_291_137
  | 138 => ok_291_138
  | 139 => ok_291_139
  | 140 => ok_291_140
  | 141 => ok_291_141
  | 142 => ok_291_142
  | 143 => ok_291_143
  | 144 => ok_291_144
  | 145 => ok_291_145
  | 146 => ok_291_146
  | 147 => ok_291_147
  | 148 => ok_291_148
  | 149 => ok_291_149
  | 150 => ok_291_150
  | 151 => ok_291_151
  | 152 => ok_291_152
  | 153 => ok_291_153
  | 154 => ok_291_154
  | 155 => ok_291_155
  | 156 => ok_291_156
  | 157 => ok_291_157
  | 158 => ok_291_158
  | 159 => ok_291_159
  | 160 => ok_291_160
  | 161 => ok_291_161
  | 162 => ok_291_162
  | 163 => ok_291_163
  | 164 => ok_291_164
  | 165 => ok_291_165
  | 166 => ok_291_166
  | 167 => ok_291_167
  | 168 => ok_291_168
  | 169 => ok_291_169
  | 170 => ok_291_170
  | 171 => ok_291_171
  | 172 => ok_291_172
  | 173 => ok_291_173
  | 174 => ok_291_174
  | 175 => ok_291_175
  | 176 => ok_291_176
  | 177 => ok_291_177
  | 178 => ok_291_178
  | 179 => ok_291_179
  | 180 => ok_291_180
  | 181 => ok_291_181
  | 182 => ok_291_182
  | 183 => ok_291_183
  | 184 => ok_291_184
  | 185 => ok_291_185
  | 186 => ok_291_186
  | 187 => ok_291_187
  | 188 => ok_291_188
  | 189 => ok_291_189
  | 190 => ok_291_190
  | 191 => ok_291_191
  | 192 => ok_291_192
  | 193 => ok_291_193
  | 194 => ok_291_194
  | 195 => ok_291_195
  | 196 => ok_291_196
  | 197 => ok_291_197
  | 198 => ok_291_198
  | 199 => ok_291_199
  | 200 => ok_291_200
  | 201 => ok_291_201
  | 202 => ok_291_202
  | 203 => ok_291_203
  | 204 => ok_291_204
  | 205 => ok_291_205
  | 206 => ok_291_206
  | 207 => ok_291_207
  | 208 => ok_291_208
  | 209 => ok_291_209
  | 210 => ok_291_210
  | 211 => ok_291_211
  | 212 => ok_291_212
  | 213 => ok_291_213
  | 214 => ok_291_214
  | 215 => ok_291_215
  | 216 => ok_291_216
  | 217 => ok_291_217
  | 218 => ok_291_218
  | 219 => ok_291_219
  | 220 => ok_291_220
  | 221 => ok_291_221
  | 222 => ok_291_222
  | 223 => ok_291_223
  | 224 => ok_291_224
  | 225 => ok_291_225
  | 226 => ok_291_226
  | 227 => ok_291_227
  | 228 => ok_291_228
  | 229 => ok_291_229
  | 230 => ok_291_230
  | 231 => ok_291_231
  | 232 => ok_291_232
  | 233 => ok_291_233
  | 234 => ok_291_234
  | 235 => ok_291_235
  | 236 => ok_291_236
  | 237 => ok_291_237
  | 238 => ok_291_238
  | 239 => ok_291_239
  | 240 => ok_291_240
  | 241 => ok_291_241
  | 242 => ok_291_242
  | 243 => ok_291_243
  | 244 => ok_291_244
  | 245 => ok_291_245
  | 246 => ok_291_246
  | 247 => ok_291_247
  | 248 => ok_291_248
  | 249 => ok_291_249
  | 250 => ok_291_250
  | 251 => ok_291_251
  | 252 => ok_291_252
  | 253 => ok_291_253
  | 254 => ok_291_254
  | 255 => ok_291_255
  | 256 => ok_291_256
  | 257 => ok_291_257
  | 258 => ok_291_258
  | 259 => ok_291_259
  | 260 => ok_291_260
  | 261 => ok_291_261
  | 262 => ok_291_262
  | 263 => ok_291_263
  | 264 => ok_291_264
  | 265 => ok_291_265
  | 266 => ok_291_266
  | 267 => ok_291_267
  | 268 => ok_291_268
  | 269 => ok_291_269
  | 270 => ok_291_270
  | 271 => ok_291_271
  | 272 => ok_291_272
  | 273 => ok_291_273
  | 274 => ok_291_274
  | 275 => ok_291_275
  | 276 => ok_291_276
  | 277 => ok_291_277
  | 278 => ok_291_278
  | 279 => ok_291_279
  | 280 => ok_291_280
  | 281 => ok_291_281
  | 282 => ok_291_282
  | 283 => ok_291_283
  | 284 => ok_291_284
  | 285 => ok_291_285
  | 286 => ok_291_286
  | 287 => ok_291_287
  | 288 => ok_291_288
  | 289 => ok_291_289
  | 290 => ok_291_290
  | 291 => ok_291_291
  | 292 => ok_291_292
  | 293 => ok_291_293
  | 294 => ok_291_294
  | 295 => ok_291_295
  | 296 => ok_291_296
  | 297 => ok_291_297
  | 298 => ok_291_298
  | 299 => ok_291_299
  | 300 => ok_291_300
  | 301 => ok_291_301
  | 302 => ok_291_302
  | 303 => ok_291_303
  | 304 => ok_291_304
  | 305 => ok_291_305
  | 306 => ok_291_306
  | 307 => ok_291_307
  | 308 => ok_291_308
  | 309 => ok_291_309
  | 310 => ok_291_310
  | 311 => ok_291_311
  | 312 => ok_291_312
  | 313 => ok_291_313
  | 314 => ok_291_314
  | 315 => ok_291_315
  | b + 316 => bk_none mi i_291 (bpf P_291) (b + 316)
theorem ok_292_0 : BkOK mi i_292 (bpf P_292) 0 (B_292.getD 0 bk0) := ⟨7, ⟨1, s_iload_n dJ9_floorMod_7cf53_0 rfl, ⟨1, s_iload_n dJ9_floorMod_7cf53_1 rfl, ⟨1, s_irem dJ9_floorMod_7cf53_2, ⟨1, s_istore_n dJ9_floorMod_7cf53_3 rfl (by decide), ⟨1, s_iload_n dJ9_floorMod_7cf53_4 rfl, ⟨1, s_iload_n dJ9_floorMod_7cf53_5 rfl, ⟨1, s_ixor dJ9_floorMod_7cf53_6, rfl⟩⟩⟩⟩⟩⟩⟩, t_ge0 dJ9_floorMod_7cf53_7 (by decide) rfl⟩
theorem ok_292_1 : BkOK mi i_292 (bpf P_292) 1 (B_292.getD 1 bk0) := ⟨11, ⟨1, s_iload_n dJ9_floorMod_7cf53_10 rfl, rfl⟩, t_eq0 dJ9_floorMod_7cf53_11 (by decide) rfl⟩
theorem ok_292_2 : BkOK mi i_292 (bpf P_292) 2 (B_292.getD 2 bk0) := ⟨17, ⟨1, s_iload_n dJ9_floorMod_7cf53_14 rfl, ⟨1, s_iload_n dJ9_floorMod_7cf53_15 rfl, ⟨1, s_iadd dJ9_floorMod_7cf53_16, rfl⟩⟩⟩, t_ret dJ9_floorMod_7cf53_17 rfl⟩
theorem ok_292_3 : BkOK mi i_292 (bpf P_292) 3 (B_292.getD 3 bk0) := ⟨19, ⟨1, s_iload_n dJ9_floorMod_7cf53_18 rfl, rfl⟩, t_ret dJ9_floorMod_7cf53_19 rfl⟩
theorem ok_292 : ∀ b, BkOK mi i_292 (bpf P_292) b (B_292.getD b bk0)
  | 0 => ok_292_0
  | 1 => ok_292_1
  | 2 => ok_292_2
  | 3 => ok_292_3
  | b + 4 => bk_none mi i_292 (bpf P_292) (b + 4)
theorem ok_293_0 : BkOK mi i_293 (bpf P_293) 0 (B_293.getD 0 bk0) := ⟨52, ⟨1, s_iload_n dJ6_bitCount_0f7a4_0 rfl, ⟨1, s_iload_n dJ6_bitCount_0f7a4_1 rfl, ⟨1, s_iconst dJ6_bitCount_0f7a4_2 rfl, ⟨1, s_iushr dJ6_bitCount_0f7a4_3, ⟨3, s_ldcw dJ6_bitCount_0f7a4_4 wt_969, ⟨1, s_iand dJ6_bitCount_0f7a4_7, ⟨1, s_isub dJ6_bitCount_0f7a4_8, ⟨1, s_istore_n dJ6_bitCount_0f7a4_9 rfl (by decide), ⟨1, s_iload_n dJ6_bitCount_0f7a4_10 rfl, ⟨3, s_ldcw dJ6_bitCount_0f7a4_11 wt_970, ⟨1, s_iand dJ6_bitCount_0f7a4_14, ⟨1, s_iload_n dJ6_bitCount_0f7a4_15 rfl, ⟨1, s_iconst dJ6_bitCount_0f7a4_16 rfl, ⟨1, s_iushr dJ6_bitCount_0f7a4_17, ⟨3, s_ldcw dJ6_bitCount_0f7a4_18 wt_970, ⟨1, s_iand dJ6_bitCount_0f7a4_21, ⟨1, s_iadd dJ6_bitCount_0f7a4_22, ⟨1, s_istore_n dJ6_bitCount_0f7a4_23 rfl (by decide), ⟨1, s_iload_n dJ6_bitCount_0f7a4_24 rfl, ⟨1, s_iload_n dJ6_bitCount_0f7a4_25 rfl, ⟨1, s_iconst dJ6_bitCount_0f7a4_26 rfl, ⟨1, s_iushr dJ6_bitCount_0f7a4_27, ⟨1, s_iadd dJ6_bitCount_0f7a4_28, ⟨3, s_ldcw dJ6_bitCount_0f7a4_29 wt_971, ⟨1, s_iand dJ6_bitCount_0f7a4_32, ⟨1, s_istore_n dJ6_bitCount_0f7a4_33 rfl (by decide), ⟨1, s_iload_n dJ6_bitCount_0f7a4_34 rfl, ⟨1, s_iload_n dJ6_bitCount_0f7a4_35 rfl, ⟨2, s_bipush dJ6_bitCount_0f7a4_36 rfl, ⟨1, s_iushr dJ6_bitCount_0f7a4_38, ⟨1, s_iadd dJ6_bitCount_0f7a4_39, ⟨1, s_istore_n dJ6_bitCount_0f7a4_40 rfl (by decide), ⟨1, s_iload_n dJ6_bitCount_0f7a4_41 rfl, ⟨1, s_iload_n dJ6_bitCount_0f7a4_42 rfl, ⟨2, s_bipush dJ6_bitCount_0f7a4_43 rfl, ⟨1, s_iushr dJ6_bitCount_0f7a4_45, ⟨1, s_iadd dJ6_bitCount_0f7a4_46, ⟨1, s_istore_n dJ6_bitCount_0f7a4_47 rfl (by decide), ⟨1, s_iload_n dJ6_bitCount_0f7a4_48 rfl, ⟨2, s_bipush dJ6_bitCount_0f7a4_49 rfl, ⟨1, s_iand dJ6_bitCount_0f7a4_51, rfl⟩⟩⟩⟩⟩⟩⟩⟩⟩⟩⟩⟩⟩⟩⟩⟩⟩⟩⟩⟩⟩⟩⟩⟩⟩⟩⟩⟩⟩⟩⟩⟩⟩⟩⟩⟩⟩⟩⟩⟩⟩, t_ret dJ6_bitCount_0f7a4_52 rfl⟩
theorem ok_293 : ∀ b, BkOK mi i_293 (bpf P_293) b (B_293.getD b bk0)
  | 0 => ok_293_0
  | b + 1 => bk_none mi i_293 (bpf P_293) (b + 1)
theorem ok_294_0 : BkOK mi i_294 (bpf P_294) 0 (B_294.getD 0 bk0) := ⟨6, ⟨1, s_aload_n dJ0_length_8abf5_0 rfl, ⟨3, s_sval dJ0_length_8abf5_1 wt_1705, ⟨1, s_blen dJ0_length_8abf5_4, ⟨1, s_aload_n dJ0_length_8abf5_5 rfl, rfl⟩⟩⟩⟩, t_cx rfl mi_296 mok_296 rfl (fun q n0 x As rest h hp hA hr => call_VS dJ0_length_8abf5_6 mok_296 rfl ⟨by decide, by decide⟩ np_296 wt_313 wt_314 wt_315 hp hA hr (by decide +kernel))⟩
theorem ok_294_1 : BkOK mi i_294 (bpf P_294) 1 (B_294.getD 1 bk0) := ⟨10, ⟨1, s_ishr dJ0_length_8abf5_9, rfl⟩, t_ret dJ0_length_8abf5_10 rfl⟩
theorem ok_294 : ∀ b, BkOK mi i_294 (bpf P_294) b (B_294.getD b bk0)
  | 0 => ok_294_0
  | 1 => ok_294_1
  | b + 2 => bk_none mi i_294 (bpf P_294) (b + 2)
theorem ok_295_0 : BkOK mi i_295 (bpf P_295) 0 (B_295.getD 0 bk0) := ⟨1, ⟨1, s_aload_n dJ0_charAt_5068e_0 rfl, rfl⟩, t_cx rfl mi_297 mok_297 rfl (fun q n0 x As rest h hp hA hr => call_VS dJ0_charAt_5068e_1 mok_297 rfl ⟨by decide, by decide⟩ np_297 wt_323 wt_324 wt_325 hp hA hr (by decide +kernel))⟩
theorem ok_295_1 : BkOK mi i_295 (bpf P_295) 1 (B_295.getD 1 bk0) := ⟨4, rfl, t_eq0 dJ0_charAt_5068e_4 (by decide) rfl⟩
theorem ok_295_2 : BkOK mi i_295 (bpf P_295) 2 (B_295.getD 2 bk0) := ⟨12, ⟨1, s_aload_n dJ0_charAt_5068e_7 rfl, ⟨3, s_sval dJ0_charAt_5068e_8 wt_1705, ⟨1, s_iload_n dJ0_charAt_5068e_11 rfl, rfl⟩⟩⟩, t_cs rfl mi_298 mok_298 rfl (fun As rest h hA hr => call_S dJ0_charAt_5068e_12 mok_298 rfl ⟨by decide, by decide⟩ np_298 wt_327 wt_328 hA hr)⟩
theorem ok_295_3 : BkOK mi i_295 (bpf P_295) 3 (B_295.getD 3 bk0) := ⟨15, rfl, t_retC dJ0_charAt_5068e_15 rfl⟩
theorem ok_295_4 : BkOK mi i_295 (bpf P_295) 4 (B_295.getD 4 bk0) := ⟨21, ⟨1, s_aload_n dJ0_charAt_5068e_16 rfl, ⟨3, s_sval dJ0_charAt_5068e_17 wt_1705, ⟨1, s_iload_n dJ0_charAt_5068e_20 rfl, rfl⟩⟩⟩, t_bad⟩
theorem ok_295 : ∀ b, BkOK mi i_295 (bpf P_295) b (B_295.getD b bk0)
  | 0 => ok_295_0
  | 1 => ok_295_1
  | 2 => ok_295_2
  | 3 => ok_295_3
  | 4 => ok_295_4
  | b + 5 => bk_none mi i_295 (bpf P_295) (b + 5)
theorem ok_296_0 : BkOK mi i_296 (bpf P_296) 0 (B_296.getD 0 bk0) := ⟨3, ⟨3, s_compact dJ0_coder_7d493_0 wt_317, rfl⟩, t_eq0 dJ0_coder_7d493_3 (by decide) rfl⟩
theorem ok_296_1 : BkOK mi i_296 (bpf P_296) 1 (B_296.getD 1 bk0) := ⟨10, ⟨1, s_aload_n dJ0_coder_7d493_6 rfl, ⟨3, s_scod dJ0_coder_7d493_7 wt_1706, rfl⟩⟩, t_go dJ0_coder_7d493_10 (by decide)⟩
theorem ok_296_2 : BkOK mi i_296 (bpf P_296) 2 (B_296.getD 2 bk0) := ⟨14, ⟨1, s_iconst dJ0_coder_7d493_13 rfl, rfl⟩, t_fall rfl⟩
theorem ok_296_3 : BkOK mi i_296 (bpf P_296) 3 (B_296.getD 3 bk0) := ⟨14, rfl, t_retY dJ0_coder_7d493_14 rfl⟩
theorem ok_296 : ∀ b, BkOK mi i_296 (bpf P_296) b (B_296.getD b bk0)
  | 0 => ok_296_0
  | 1 => ok_296_1
  | 2 => ok_296_2
  | 3 => ok_296_3
  | b + 4 => bk_none mi i_296 (bpf P_296) (b + 4)
theorem ok_297_0 : BkOK mi i_297 (bpf P_297) 0 (B_297.getD 0 bk0) := ⟨3, ⟨3, s_compact dJ0_isLatin1_aae02_0 wt_317, rfl⟩, t_eq0 dJ0_isLatin1_aae02_3 (by decide) rfl⟩
theorem ok_297_1 : BkOK mi i_297 (bpf P_297) 1 (B_297.getD 1 bk0) := ⟨10, ⟨1, s_aload_n dJ0_isLatin1_aae02_6 rfl, ⟨3, s_scod dJ0_isLatin1_aae02_7 wt_1706, rfl⟩⟩, t_ne0 dJ0_isLatin1_aae02_10 (by decide) rfl⟩
theorem ok_297_2 : BkOK mi i_297 (bpf P_297) 2 (B_297.getD 2 bk0) := ⟨14, ⟨1, s_iconst dJ0_isLatin1_aae02_13 rfl, rfl⟩, t_go dJ0_isLatin1_aae02_14 (by decide)⟩
theorem ok_297_3 : BkOK mi i_297 (bpf P_297) 3 (B_297.getD 3 bk0) := ⟨18, ⟨1, s_iconst dJ0_isLatin1_aae02_17 rfl, rfl⟩, t_fall rfl⟩
theorem ok_297_4 : BkOK mi i_297 (bpf P_297) 4 (B_297.getD 4 bk0) := ⟨18, rfl, t_retZ dJ0_isLatin1_aae02_18 rfl⟩
theorem ok_297 : ∀ b, BkOK mi i_297 (bpf P_297) b (B_297.getD b bk0)
  | 0 => ok_297_0
  | 1 => ok_297_1
  | 2 => ok_297_2
  | 3 => ok_297_3
  | 4 => ok_297_4
  | b + 5 => bk_none mi i_297 (bpf P_297) (b + 5)
theorem ok_298_0 : BkOK mi i_298 (bpf P_298) 0 (B_298.getD 0 bk0) := ⟨14, ⟨1, s_iload_n dJ1_charAt_3b067_0 rfl, ⟨1, s_aload_n dJ1_charAt_3b067_1 rfl, ⟨1, s_blen dJ1_charAt_3b067_2, ⟨3, s_chk dJ1_charAt_3b067_3 wt_330 wt_333 wt_335 wt_336 wt_15 wt_337 wt_331 wt_13 wt_332 ⟨by decide, by decide⟩, ⟨1, s_aload_n dJ1_charAt_3b067_6 rfl, ⟨1, s_iload_n dJ1_charAt_3b067_7 rfl, ⟨1, s_bld dJ1_charAt_3b067_8, ⟨3, s_sipush dJ1_charAt_3b067_9 rfl, ⟨1, s_iand dJ1_charAt_3b067_12, ⟨1, s_i2c dJ1_charAt_3b067_13, rfl⟩⟩⟩⟩⟩⟩⟩⟩⟩⟩, t_retC dJ1_charAt_3b067_14 rfl⟩
theorem ok_298 : ∀ b, BkOK mi i_298 (bpf P_298) b (B_298.getD b bk0)
  | 0 => ok_298_0
  | b + 1 => bk_none mi i_298 (bpf P_298) (b + 1)
