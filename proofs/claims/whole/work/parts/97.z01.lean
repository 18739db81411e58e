section OPS
variable {g : GT} {X : CtxT} {A B : Nat → Nat} {w : Wd} {k n b L i : Nat} {xs : Nat → Int32}
set_option maxHeartbeats 4000000 in
set_option maxRecDepth 100000 in
theorem op_person (hC : Cx g X RL cL_law 4 ret room_1) (hX : SCR X b L xs) (hg : b < gB g) (hL : L ≤ 256) (hJ : IJ A B) (hS : LwS g A B w) (hi : i + 4 ≤ L) (hk : k + 2 ≤ 600000) (hn : n + 16 ≤ 7302250) (kk : ∀ (w2 : Wd) (k2 n2 : Nat), LwS g A B w2 → k2 ≤ k + 2 → n2 ≤ n + 16 → V g X 4 w2 k2 n2 1222 [(3, .int (nI i)), (2, .ref (B 0)), (1, .ref (A 0)), (0, .ref b)] []) : V g X 4 w k n 335 [(3, .int (nI i)), (2, .ref (B 0)), (1, .ref (A 0)), (0, .ref b)] [] := by
  obtain ⟨vi, cv, kS, seed, tl, bytes, v, now, thought, st, ct, before, slots, steps, bs, ss, sc, kinds, moons, places, values, (⟨tp, aw, us, sh⟩), fits, left, needs, th, xat, xrh, xrp, xrw, path, home, kin, a, was, kept, isKept, text, rdPath, rdHome, rdKin, rd, sight, went, tales, tests, votes, begun, between, hW, hM, hR, hvi, hviB⟩ := hS
  obtain ⟨xA0, xA1, xA2, xvi, xA3, xA4, xA5, xA6, hbef, xbs, xA7, hslo, xss, xA8, xA9, xA10, xA11, xA12, xA13, xA14, xA15, xA16, xA17, xA18, hste, xst⟩ := hW
  have hix := actIx_lt st ct
  refine vv_aload_n hC 2 dL_law_335 rfl rfl ?_
  refine vv_aload_n hC 3 dL_law_336 rfl rfl ?_
  refine vv_iload_n hC 0 dL_law_337 rfl rfl ?_
  refine vv_iconst (v := nI 1) hC dL_law_338 rfl ?_
  refine vv_iadd hC dL_law_339 ?_
  refine vv_topi (nI (i + 1)) (nI_add i 1) ?_
  refine vv_sld hC hX hg (i + 1) (by omega) (by omega) dL_law_340 ?_
  refine vv_aload_n hC 3 dL_law_341 rfl rfl ?_
  refine vv_iload_n hC 0 dL_law_342 rfl rfl ?_
  refine vv_iconst (v := nI 2) hC dL_law_343 rfl ?_
  refine vv_iadd hC dL_law_344 ?_
  refine vv_topi (nI (i + 2)) (nI_add i 2) ?_
  refine vv_sld hC hX hg (i + 2) (by omega) (by omega) dL_law_345 ?_
  refine vv_callV hC dL_law_346 md_X8_person lk_m_L_38 lk_i_X8_person lk_s_X8_person xA0 rfl (As := [.int (xs (i + 1)), .int (xs (i + 2))]) (rest := []) (c_X8_person g _ A hJ.1 vi kS seed v now (xs (i + 1)) (xs (i + 2)) xA0 xvi xA3) rfl rfl (Nat.le_of_ble_eq_true rfl) ⟨Nat.le_of_ble_eq_true rfl, Nat.le_of_ble_eq_true rfl, (by show k + 0 ≤ 600000; omega), (by show n + 0 ≤ 7302250; omega)⟩ (fun r w1 hq => ?_)
  obtain ⟨rfl, rfl⟩ := hq
  have hM1 := hM
  obtain ⟨yB0, yB4, yB5, yB6, yB7, yB8, yB10, yB11, yB12, yB18, yB19, yB20, yB21, yB22, yB24, yB25, yB26, yB27, yB28, yB29⟩ := hM1
  refine vv_aload_n hC 1 dL_law_349 rfl rfl ?_
  refine vv_aload_n hC 3 dL_law_350 rfl rfl ?_
  refine vv_iload_n hC 0 dL_law_351 rfl rfl ?_
  refine vv_iconst (v := nI 1) hC dL_law_352 rfl ?_
  refine vv_iadd hC dL_law_353 ?_
  refine vv_topi (nI (i + 1)) (nI_add i 1) ?_
  refine vv_sld hC hX hg (i + 1) (by omega) (by omega) dL_law_354 ?_
  refine vv_aload_n hC 3 dL_law_355 rfl rfl ?_
  refine vv_iload_n hC 0 dL_law_356 rfl rfl ?_
  refine vv_iconst (v := nI 2) hC dL_law_357 rfl ?_
  refine vv_iadd hC dL_law_358 ?_
  refine vv_topi (nI (i + 2)) (nI_add i 2) ?_
  refine vv_sld hC hX hg (i + 2) (by omega) (by omega) dL_law_359 ?_
  refine vv_callV hC dL_law_360 md_X9_person lk_m_L_41 lk_i_X9_person lk_s_X9_person yB0 rfl (As := [.int (xs (i + 1)), .int (xs (i + 2))]) (rest := [.int _]) (c_X9_person g _ B hJ.2.1 th (gVi_houses v) (gVi_people v) (gVi_pathCount v) ct tl xat xrh xrp xrw sc seed home a kin (xs (i + 1)) (xs (i + 2)) hR.1.hP yB0 yB5 yB7 yB6) rfl rfl (Nat.le_of_ble_eq_true rfl) ⟨Nat.le_of_ble_eq_true rfl, Nat.le_of_ble_eq_true rfl, (by show k + 0 + 0 ≤ 600000; omega), (by show n + 0 + 0 ≤ 7302250; omega)⟩ (fun r w2 hq => ?_)
  obtain ⟨rfl, m0, hE2⟩ := hq
  have hq1 := q_person hR (xs (i + 1)) (xs (i + 2))
  have hR1 := hR
  refine vv_icmp_eq hC 1222 dL_law_363 (by decide) (fun _ => ?_) (fun z => absurd hq1 z)
  refine kk w2 _ _ ⟨_, _, _, _, _, _, _, _, _, _, _, _, _, _, _, _, _, _, _, _, _, _, _, _, _, _, _, _, _, _, _, _, _, _, _, _, _, _, _, _, _, _, _, _, _, _, _, _, _, WX.keep ⟨xA0, xA1, xA2, xvi, xA3, xA4, xA5, xA6, hbef, xbs, xA7, hslo, xss, xA8, xA9, xA10, xA11, xA12, xA13, xA14, xA15, xA16, xA17, xA18, hste, xst⟩ hE2 (fun j2 hj2 => by rintro (z) <;> exact hJ.2.2 _ _ hj2 (by unfold uB; omega) z) (by rintro (z) <;> exact hviB _ (by unfold uB; omega) z), ⟨m0, hE2 _ _ (by rintro (z) <;> exact absurd (hJ.2.1 _ _ (by omega) (by omega) z) (by omega)) yB4, hE2 _ _ (by rintro (z) <;> exact absurd (hJ.2.1 _ _ (by omega) (by omega) z) (by omega)) yB5, hE2 _ _ (by rintro (z) <;> exact absurd (hJ.2.1 _ _ (by omega) (by omega) z) (by omega)) yB6, hE2 _ _ (by rintro (z) <;> exact absurd (hJ.2.1 _ _ (by omega) (by omega) z) (by omega)) yB7, hE2 _ _ (by rintro (z) <;> exact absurd (hJ.2.1 _ _ (by omega) (by omega) z) (by omega)) yB8, hE2 _ _ (by rintro (z) <;> exact absurd (hJ.2.1 _ _ (by omega) (by omega) z) (by omega)) yB10, hE2 _ _ (by rintro (z) <;> exact absurd (hJ.2.1 _ _ (by omega) (by omega) z) (by omega)) yB11, hE2 _ _ (by rintro (z) <;> exact absurd (hJ.2.1 _ _ (by omega) (by omega) z) (by omega)) yB12, hE2 _ _ (by rintro (z) <;> exact absurd (hJ.2.1 _ _ (by omega) (by omega) z) (by omega)) yB18, hE2 _ _ (by rintro (z) <;> exact absurd (hJ.2.1 _ _ (by omega) (by omega) z) (by omega)) yB19, hE2 _ _ (by rintro (z) <;> exact absurd (hJ.2.1 _ _ (by omega) (by omega) z) (by omega)) yB20, hE2 _ _ (by rintro (z) <;> exact absurd (hJ.2.1 _ _ (by omega) (by omega) z) (by omega)) yB21, hE2 _ _ (by rintro (z) <;> exact absurd (hJ.2.1 _ _ (by omega) (by omega) z) (by omega)) yB22, hE2 _ _ (by rintro (z) <;> exact absurd (hJ.2.1 _ _ (by omega) (by omega) z) (by omega)) yB24, hE2 _ _ (by rintro (z) <;> exact absurd (hJ.2.1 _ _ (by omega) (by omega) z) (by omega)) yB25, hE2 _ _ (by rintro (z) <;> exact absurd (hJ.2.1 _ _ (by omega) (by omega) z) (by omega)) yB26, hE2 _ _ (by rintro (z) <;> exact absurd (hJ.2.1 _ _ (by omega) (by omega) z) (by omega)) yB27, hE2 _ _ (by rintro (z) <;> exact absurd (hJ.2.1 _ _ (by omega) (by omega) z) (by omega)) yB28, hE2 _ _ (by rintro (z) <;> exact absurd (hJ.2.1 _ _ (by omega) (by omega) z) (by omega)) yB29⟩, hR1, hvi, hviB⟩ (by omega) (by omega)
set_option maxHeartbeats 4000000 in
set_option maxRecDepth 100000 in
theorem op_may (hC : Cx g X RL cL_law 4 ret room_1) (hX : SCR X b L xs) (hg : b < gB g) (hL : L ≤ 256) (hJ : IJ A B) (hS : LwS g A B w) (hi : i + 4 ≤ L) (hk : k + 2 ≤ 600000) (hn : n + 16 ≤ 7302250) (kk : ∀ (w2 : Wd) (k2 n2 : Nat), LwS g A B w2 → k2 ≤ k + 2 → n2 ≤ n + 16 → V g X 4 w2 k2 n2 1222 [(3, .int (nI i)), (2, .ref (B 0)), (1, .ref (A 0)), (0, .ref b)] []) : V g X 4 w k n 368 [(3, .int (nI i)), (2, .ref (B 0)), (1, .ref (A 0)), (0, .ref b)] [] := by
  obtain ⟨vi, cv, kS, seed, tl, bytes, v, now, thought, st, ct, before, slots, steps, bs, ss, sc, kinds, moons, places, values, (⟨tp, aw, us, sh⟩), fits, left, needs, th, xat, xrh, xrp, xrw, path, home, kin, a, was, kept, isKept, text, rdPath, rdHome, rdKin, rd, sight, went, tales, tests, votes, begun, between, hW, hM, hR, hvi, hviB⟩ := hS
  obtain ⟨xA0, xA1, xA2, xvi, xA3, xA4, xA5, xA6, hbef, xbs, xA7, hslo, xss, xA8, xA9, xA10, xA11, xA12, xA13, xA14, xA15, xA16, xA17, xA18, hste, xst⟩ := hW
  have hix := actIx_lt st ct
  refine vv_aload_n hC 2 dL_law_368 rfl rfl ?_
  refine vv_aload_n hC 3 dL_law_369 rfl rfl ?_
  refine vv_iload_n hC 0 dL_law_370 rfl rfl ?_
  refine vv_iconst (v := nI 1) hC dL_law_371 rfl ?_
  refine vv_iadd hC dL_law_372 ?_
  refine vv_topi (nI (i + 1)) (nI_add i 1) ?_
  refine vv_sld hC hX hg (i + 1) (by omega) (by omega) dL_law_373 ?_
  refine vv_callV hC dL_law_374 md_X8_may lk_m_L_42 lk_i_X8_may lk_s_X8_may xA0 rfl (As := [.int (xs (i + 1))]) (rest := []) (c_X8_may g _ A hJ.1 vi kS seed v now (xs (i + 1)) xA0 xvi xA3) rfl rfl (Nat.le_of_ble_eq_true rfl) ⟨Nat.le_of_ble_eq_true rfl, Nat.le_of_ble_eq_true rfl, (by show k + 0 ≤ 600000; omega), (by show n + 0 ≤ 7302250; omega)⟩ (fun r w1 hq => ?_)
  obtain ⟨rfl, rfl⟩ := hq
  have hM1 := hM
  obtain ⟨yB0, yB4, yB5, yB6, yB7, yB8, yB10, yB11, yB12, yB18, yB19, yB20, yB21, yB22, yB24, yB25, yB26, yB27, yB28, yB29⟩ := hM1
  refine vv_aload_n hC 1 dL_law_377 rfl rfl ?_
  refine vv_aload_n hC 3 dL_law_378 rfl rfl ?_
  refine vv_iload_n hC 0 dL_law_379 rfl rfl ?_
  refine vv_iconst (v := nI 1) hC dL_law_380 rfl ?_
  refine vv_iadd hC dL_law_381 ?_
  refine vv_topi (nI (i + 1)) (nI_add i 1) ?_
  refine vv_sld hC hX hg (i + 1) (by omega) (by omega) dL_law_382 ?_
  refine vv_callV hC dL_law_383 md_X9_may lk_m_L_46 lk_i_X9_may lk_s_X9_may yB0 rfl (As := [.int (xs (i + 1))]) (rest := [.int _]) (c_X9_may g _ B hJ.2.1 th (gVi_houses v) (gVi_people v) (gVi_pathCount v) ct tl xat xrh xrp xrw sc seed a home path (xs (i + 1)) hR.1.hP hR.1.hH hR.1.hom yB0 yB7 yB5 yB4) rfl rfl (Nat.le_of_ble_eq_true rfl) ⟨Nat.le_of_ble_eq_true rfl, Nat.le_of_ble_eq_true rfl, (by show k + 0 + 0 ≤ 600000; omega), (by show n + 0 + 0 ≤ 7302250; omega)⟩ (fun r w2 hq => ?_)
  obtain ⟨rfl, m0, hE2⟩ := hq
  have hq1 := q_may hR (xs (i + 1))
  have hR1 := hR
  refine vv_icmp_eq hC 1222 dL_law_386 (by decide) (fun _ => ?_) (fun z => absurd hq1 z)
  refine kk w2 _ _ ⟨_, _, _, _, _, _, _, _, _, _, _, _, _, _, _, _, _, _, _, _, _, _, _, _, _, _, _, _, _, _, _, _, _, _, _, _, _, _, _, _, _, _, _, _, _, _, _, _, _, WX.keep ⟨xA0, xA1, xA2, xvi, xA3, xA4, xA5, xA6, hbef, xbs, xA7, hslo, xss, xA8, xA9, xA10, xA11, xA12, xA13, xA14, xA15, xA16, xA17, xA18, hste, xst⟩ hE2 (fun j2 hj2 => by rintro (z) <;> exact hJ.2.2 _ _ hj2 (by unfold uB; omega) z) (by rintro (z) <;> exact hviB _ (by unfold uB; omega) z), ⟨m0, hE2 _ _ (by rintro (z) <;> exact absurd (hJ.2.1 _ _ (by omega) (by omega) z) (by omega)) yB4, hE2 _ _ (by rintro (z) <;> exact absurd (hJ.2.1 _ _ (by omega) (by omega) z) (by omega)) yB5, hE2 _ _ (by rintro (z) <;> exact absurd (hJ.2.1 _ _ (by omega) (by omega) z) (by omega)) yB6, hE2 _ _ (by rintro (z) <;> exact absurd (hJ.2.1 _ _ (by omega) (by omega) z) (by omega)) yB7, hE2 _ _ (by rintro (z) <;> exact absurd (hJ.2.1 _ _ (by omega) (by omega) z) (by omega)) yB8, hE2 _ _ (by rintro (z) <;> exact absurd (hJ.2.1 _ _ (by omega) (by omega) z) (by omega)) yB10, hE2 _ _ (by rintro (z) <;> exact absurd (hJ.2.1 _ _ (by omega) (by omega) z) (by omega)) yB11, hE2 _ _ (by rintro (z) <;> exact absurd (hJ.2.1 _ _ (by omega) (by omega) z) (by omega)) yB12, hE2 _ _ (by rintro (z) <;> exact absurd (hJ.2.1 _ _ (by omega) (by omega) z) (by omega)) yB18, hE2 _ _ (by rintro (z) <;> exact absurd (hJ.2.1 _ _ (by omega) (by omega) z) (by omega)) yB19, hE2 _ _ (by rintro (z) <;> exact absurd (hJ.2.1 _ _ (by omega) (by omega) z) (by omega)) yB20, hE2 _ _ (by rintro (z) <;> exact absurd (hJ.2.1 _ _ (by omega) (by omega) z) (by omega)) yB21, hE2 _ _ (by rintro (z) <;> exact absurd (hJ.2.1 _ _ (by omega) (by omega) z) (by omega)) yB22, hE2 _ _ (by rintro (z) <;> exact absurd (hJ.2.1 _ _ (by omega) (by omega) z) (by omega)) yB24, hE2 _ _ (by rintro (z) <;> exact absurd (hJ.2.1 _ _ (by omega) (by omega) z) (by omega)) yB25, hE2 _ _ (by rintro (z) <;> exact absurd (hJ.2.1 _ _ (by omega) (by omega) z) (by omega)) yB26, hE2 _ _ (by rintro (z) <;> exact absurd (hJ.2.1 _ _ (by omega) (by omega) z) (by omega)) yB27, hE2 _ _ (by rintro (z) <;> exact absurd (hJ.2.1 _ _ (by omega) (by omega) z) (by omega)) yB28, hE2 _ _ (by rintro (z) <;> exact absurd (hJ.2.1 _ _ (by omega) (by omega) z) (by omega)) yB29⟩, hR1, hvi, hviB⟩ (by omega) (by omega)
set_option maxHeartbeats 4000000 in
set_option maxRecDepth 100000 in
theorem op_prey (hC : Cx g X RL cL_law 4 ret room_1) (hX : SCR X b L xs) (hg : b < gB g) (hL : L ≤ 256) (hJ : IJ A B) (hS : LwS g A B w) (hi : i + 4 ≤ L) (hk : k + 2 ≤ 600000) (hn : n + 16 ≤ 7302250) (kk : ∀ (w2 : Wd) (k2 n2 : Nat), LwS g A B w2 → k2 ≤ k + 2 → n2 ≤ n + 16 → V g X 4 w2 k2 n2 1222 [(3, .int (nI i)), (2, .ref (B 0)), (1, .ref (A 0)), (0, .ref b)] []) : V g X 4 w k n 391 [(3, .int (nI i)), (2, .ref (B 0)), (1, .ref (A 0)), (0, .ref b)] [] := by
  obtain ⟨vi, cv, kS, seed, tl, bytes, v, now, thought, st, ct, before, slots, steps, bs, ss, sc, kinds, moons, places, values, (⟨tp, aw, us, sh⟩), fits, left, needs, th, xat, xrh, xrp, xrw, path, home, kin, a, was, kept, isKept, text, rdPath, rdHome, rdKin, rd, sight, went, tales, tests, votes, begun, between, hW, hM, hR, hvi, hviB⟩ := hS
  obtain ⟨xA0, xA1, xA2, xvi, xA3, xA4, xA5, xA6, hbef, xbs, xA7, hslo, xss, xA8, xA9, xA10, xA11, xA12, xA13, xA14, xA15, xA16, xA17, xA18, hste, xst⟩ := hW
  have hix := actIx_lt st ct
  refine vv_aload_n hC 2 dL_law_391 rfl rfl ?_
  refine vv_aload_n hC 3 dL_law_392 rfl rfl ?_
  refine vv_iload_n hC 0 dL_law_393 rfl rfl ?_
  refine vv_iconst (v := nI 1) hC dL_law_394 rfl ?_
  refine vv_iadd hC dL_law_395 ?_
  refine vv_topi (nI (i + 1)) (nI_add i 1) ?_
  refine vv_sld hC hX hg (i + 1) (by omega) (by omega) dL_law_396 ?_
  refine vv_aload_n hC 3 dL_law_397 rfl rfl ?_
  refine vv_iload_n hC 0 dL_law_398 rfl rfl ?_
  refine vv_iconst (v := nI 2) hC dL_law_399 rfl ?_
  refine vv_iadd hC dL_law_400 ?_
  refine vv_topi (nI (i + 2)) (nI_add i 2) ?_
  refine vv_sld hC hX hg (i + 2) (by omega) (by omega) dL_law_401 ?_
  refine vv_callV hC dL_law_402 md_X8_prey lk_m_L_47 lk_i_X8_prey lk_s_X8_prey xA0 rfl (As := [.int (xs (i + 1)), .int (xs (i + 2))]) (rest := []) (c_X8_prey g _ A hJ.1 vi kS seed v now (xs (i + 1)) (xs (i + 2)) hR.1.hH hR.1.hP xA0 xvi xA3) rfl rfl (Nat.le_of_ble_eq_true rfl) ⟨Nat.le_of_ble_eq_true rfl, Nat.le_of_ble_eq_true rfl, (by show k + 0 ≤ 600000; omega), (by show n + 0 ≤ 7302250; omega)⟩ (fun r w1 hq => ?_)
  obtain ⟨rfl, rfl⟩ := hq
  have hM1 := hM
  obtain ⟨yB0, yB4, yB5, yB6, yB7, yB8, yB10, yB11, yB12, yB18, yB19, yB20, yB21, yB22, yB24, yB25, yB26, yB27, yB28, yB29⟩ := hM1
  refine vv_aload_n hC 1 dL_law_405 rfl rfl ?_
  refine vv_aload_n hC 3 dL_law_406 rfl rfl ?_
  refine vv_iload_n hC 0 dL_law_407 rfl rfl ?_
  refine vv_iconst (v := nI 1) hC dL_law_408 rfl ?_
  refine vv_iadd hC dL_law_409 ?_
  refine vv_topi (nI (i + 1)) (nI_add i 1) ?_
  refine vv_sld hC hX hg (i + 1) (by omega) (by omega) dL_law_410 ?_
  refine vv_aload_n hC 3 dL_law_411 rfl rfl ?_
  refine vv_iload_n hC 0 dL_law_412 rfl rfl ?_
  refine vv_iconst (v := nI 2) hC dL_law_413 rfl ?_
  refine vv_iadd hC dL_law_414 ?_
  refine vv_topi (nI (i + 2)) (nI_add i 2) ?_
  refine vv_sld hC hX hg (i + 2) (by omega) (by omega) dL_law_415 ?_
  refine vv_callV hC dL_law_416 md_X9_prey lk_m_L_50 lk_i_X9_prey lk_s_X9_prey yB0 rfl (As := [.int (xs (i + 1)), .int (xs (i + 2))]) (rest := [.int _]) (c_X9_prey g _ B hJ.2.1 th (gVi_houses v) (gVi_people v) (gVi_pathCount v) ct tl xat xrh xrp xrw sc seed a home path kin (xs (i + 1)) (xs (i + 2)) hR.1.hP hR.1.hH hR.1.hom yB0 yB7 yB5 yB4 yB6) rfl rfl (Nat.le_of_ble_eq_true rfl) ⟨Nat.le_of_ble_eq_true rfl, Nat.le_of_ble_eq_true rfl, (by show k + 0 + 0 ≤ 600000; omega), (by show n + 0 + 0 ≤ 7302250; omega)⟩ (fun r w2 hq => ?_)
  obtain ⟨rfl, m0, hE2⟩ := hq
  have hq1 := q_prey hR (xs (i + 1)) (xs (i + 2))
  have hR1 := hR
  refine vv_icmp_eq hC 1222 dL_law_419 (by decide) (fun _ => ?_) (fun z => absurd hq1 z)
  refine kk w2 _ _ ⟨_, _, _, _, _, _, _, _, _, _, _, _, _, _, _, _, _, _, _, _, _, _, _, _, _, _, _, _, _, _, _, _, _, _, _, _, _, _, _, _, _, _, _, _, _, _, _, _, _, WX.keep ⟨xA0, xA1, xA2, xvi, xA3, xA4, xA5, xA6, hbef, xbs, xA7, hslo, xss, xA8, xA9, xA10, xA11, xA12, xA13, xA14, xA15, xA16, xA17, xA18, hste, xst⟩ hE2 (fun j2 hj2 => by rintro (z) <;> exact hJ.2.2 _ _ hj2 (by unfold uB; omega) z) (by rintro (z) <;> exact hviB _ (by unfold uB; omega) z), ⟨m0, hE2 _ _ (by rintro (z) <;> exact absurd (hJ.2.1 _ _ (by omega) (by omega) z) (by omega)) yB4, hE2 _ _ (by rintro (z) <;> exact absurd (hJ.2.1 _ _ (by omega) (by omega) z) (by omega)) yB5, hE2 _ _ (by rintro (z) <;> exact absurd (hJ.2.1 _ _ (by omega) (by omega) z) (by omega)) yB6, hE2 _ _ (by rintro (z) <;> exact absurd (hJ.2.1 _ _ (by omega) (by omega) z) (by omega)) yB7, hE2 _ _ (by rintro (z) <;> exact absurd (hJ.2.1 _ _ (by omega) (by omega) z) (by omega)) yB8, hE2 _ _ (by rintro (z) <;> exact absurd (hJ.2.1 _ _ (by omega) (by omega) z) (by omega)) yB10, hE2 _ _ (by rintro (z) <;> exact absurd (hJ.2.1 _ _ (by omega) (by omega) z) (by omega)) yB11, hE2 _ _ (by rintro (z) <;> exact absurd (hJ.2.1 _ _ (by omega) (by omega) z) (by omega)) yB12, hE2 _ _ (by rintro (z) <;> exact absurd (hJ.2.1 _ _ (by omega) (by omega) z) (by omega)) yB18, hE2 _ _ (by rintro (z) <;> exact absurd (hJ.2.1 _ _ (by omega) (by omega) z) (by omega)) yB19, hE2 _ _ (by rintro (z) <;> exact absurd (hJ.2.1 _ _ (by omega) (by omega) z) (by omega)) yB20, hE2 _ _ (by rintro (z) <;> exact absurd (hJ.2.1 _ _ (by omega) (by omega) z) (by omega)) yB21, hE2 _ _ (by rintro (z) <;> exact absurd (hJ.2.1 _ _ (by omega) (by omega) z) (by omega)) yB22, hE2 _ _ (by rintro (z) <;> exact absurd (hJ.2.1 _ _ (by omega) (by omega) z) (by omega)) yB24, hE2 _ _ (by rintro (z) <;> exact absurd (hJ.2.1 _ _ (by omega) (by omega) z) (by omega)) yB25, hE2 _ _ (by rintro (z) <;> exact absurd (hJ.2.1 _ _ (by omega) (by omega) z) (by omega)) yB26, hE2 _ _ (by rintro (z) <;> exact absurd (hJ.2.1 _ _ (by omega) (by omega) z) (by omega)) yB27, hE2 _ _ (by rintro (z) <;> exact absurd (hJ.2.1 _ _ (by omega) (by omega) z) (by omega)) yB28, hE2 _ _ (by rintro (z) <;> exact absurd (hJ.2.1 _ _ (by omega) (by omega) z) (by omega)) yB29⟩, hR1, hvi, hviB⟩ (by omega) (by omega)
set_option maxHeartbeats 4000000 in
set_option maxRecDepth 100000 in
theorem op_dawn (hC : Cx g X RL cL_law 4 ret room_1) (hX : SCR X b L xs) (hg : b < gB g) (hL : L ≤ 256) (hJ : IJ A B) (hS : LwS g A B w) (hi : i + 4 ≤ L) (hk : k + 2 ≤ 600000) (hn : n + 16 ≤ 7302250) (kk : ∀ (w2 : Wd) (k2 n2 : Nat), LwS g A B w2 → k2 ≤ k + 2 → n2 ≤ n + 16 → V g X 4 w2 k2 n2 1222 [(3, .int (nI i)), (2, .ref (B 0)), (1, .ref (A 0)), (0, .ref b)] []) : V g X 4 w k n 457 [(3, .int (nI i)), (2, .ref (B 0)), (1, .ref (A 0)), (0, .ref b)] [] := by
  obtain ⟨vi, cv, kS, seed, tl, bytes, v, now, thought, st, ct, before, slots, steps, bs, ss, sc, kinds, moons, places, values, (⟨tp, aw, us, sh⟩), fits, left, needs, th, xat, xrh, xrp, xrw, path, home, kin, a, was, kept, isKept, text, rdPath, rdHome, rdKin, rd, sight, went, tales, tests, votes, begun, between, hW, hM, hR, hvi, hviB⟩ := hS
  obtain ⟨xA0, xA1, xA2, xvi, xA3, xA4, xA5, xA6, hbef, xbs, xA7, hslo, xss, xA8, xA9, xA10, xA11, xA12, xA13, xA14, xA15, xA16, xA17, xA18, hste, xst⟩ := hW
  have hix := actIx_lt st ct
  refine vv_aload_n hC 2 dL_law_457 rfl rfl ?_
  refine vv_callV hC dL_law_458 md_X8_dawn lk_m_L_55 lk_i_X8_dawn lk_s_X8_dawn xA0 rfl (As := []) (rest := []) (c_X8_dawn g _ A hJ.1 vi _ kS seed st ct now before _ hR.2.2.1.1 hR.2.2.1.2.1 (hbef _ (actIx_lt _ _)) xA0 xA5 xA3 xA6 (xbs _ (actIx_lt _ _)) (na hJ.1 (by omega) (by omega) (by omega))) rfl rfl (Nat.le_of_ble_eq_true rfl) ⟨Nat.le_of_ble_eq_true rfl, Nat.le_of_ble_eq_true rfl, (by show k + 0 ≤ 600000; omega), (by show n + 0 ≤ 7302250; omega)⟩ (fun r w1 hq => ?_)
  obtain ⟨rfl, e0, e1, e_el, hE1⟩ := hq
  have hM1 := hM.keep hE1 (fun j2 hj2 => by rintro (z | z | z) <;> exact hJ.2.2 _ _ (by unfold uA; omega) hj2 z.symm)
  obtain ⟨yB0, yB4, yB5, yB6, yB7, yB8, yB10, yB11, yB12, yB18, yB19, yB20, yB21, yB22, yB24, yB25, yB26, yB27, yB28, yB29⟩ := hM1
  refine vv_aload_n hC 1 dL_law_461 rfl rfl ?_
  refine vv_callV hC dL_law_462 md_X9_dawn lk_m_L_58 lk_i_X9_dawn lk_s_X9_dawn yB0 rfl (As := []) (rest := [.int _]) (c_X9_dawn g _ B hJ.2.1 th (gVi_houses v) (gVi_people v) (gVi_pathCount v) ct tl xat xrh xrp xrw sc seed was a hR.1.hP hR.2.2.1.2.1 yB0 yB8 yB7) rfl rfl (Nat.le_of_ble_eq_true rfl) ⟨Nat.le_of_ble_eq_true rfl, Nat.le_of_ble_eq_true rfl, (by show k + 0 + 0 ≤ 600000; omega), (by show n + 0 + 0 ≤ 7302250; omega)⟩ (fun r w2 hq => ?_)
  obtain ⟨rfl, m0, m1, m2, hE2⟩ := hq
  obtain ⟨hq1, hq2, hR1⟩ := q_dawn hR _
  rw [← hq2] at m0
  refine vv_icmp_eq hC 1222 dL_law_465 (by decide) (fun _ => ?_) (fun z => absurd hq1 z)
  refine kk w2 _ _ ⟨_, _, _, _, _, _, _, _, _, _, _, _, _, _, _, _, _, _, _, _, _, _, _, _, _, _, _, _, _, _, _, _, _, _, _, _, _, _, _, _, _, _, _, _, _, _, _, _, _, WX.keep ⟨hE1 _ _ (by rintro (z | z | z) <;> exact absurd (hJ.1 _ _ (by omega) (by omega) z) (by omega)) xA0, hE1 _ _ (by rintro (z | z | z) <;> exact absurd (hJ.1 _ _ (by omega) (by omega) z) (by omega)) xA1, hE1 _ _ (by rintro (z | z | z) <;> exact absurd (hJ.1 _ _ (by omega) (by omega) z) (by omega)) xA2, hE1 _ _ (by rintro (z | z | z) <;> exact hvi _ (by unfold uA; omega) z) xvi, e1, hE1 _ _ (by rintro (z | z | z) <;> exact absurd (hJ.1 _ _ (by omega) (by omega) z) (by omega)) xA4, e0, hE1 _ _ (by rintro (z | z | z) <;> exact absurd (hJ.1 _ _ (by omega) (by omega) z) (by omega)) xA6, hbef, (fun j hj => by
        unfold va_up
        by_cases e : j = actIx st ct
        · rw [e, if_pos rfl]; exact e_el
        · rw [if_neg e]; exact hE1 _ _ (by rintro (z | z | z) <;> exact absurd (hJ.1 _ _ (by omega) (by omega) z) (by omega)) (xbs j hj)), hE1 _ _ (by rintro (z | z | z) <;> exact absurd (hJ.1 _ _ (by omega) (by omega) z) (by omega)) xA7, hslo, fun j2 hj2 => hE1 _ _ (by rintro (z | z | z) <;> exact absurd (hJ.1 _ _ (by omega) (by omega) z) (by omega)) (xss j2 hj2), hE1 _ _ (by rintro (z | z | z) <;> exact absurd (hJ.1 _ _ (by omega) (by omega) z) (by omega)) xA8, hE1 _ _ (by rintro (z | z | z) <;> exact absurd (hJ.1 _ _ (by omega) (by omega) z) (by omega)) xA9, hE1 _ _ (by rintro (z | z | z) <;> exact absurd (hJ.1 _ _ (by omega) (by omega) z) (by omega)) xA10, hE1 _ _ (by rintro (z | z | z) <;> exact absurd (hJ.1 _ _ (by omega) (by omega) z) (by omega)) xA11, hE1 _ _ (by rintro (z | z | z) <;> exact absurd (hJ.1 _ _ (by omega) (by omega) z) (by omega)) xA12, hE1 _ _ (by rintro (z | z | z) <;> exact absurd (hJ.1 _ _ (by omega) (by omega) z) (by omega)) xA13, hE1 _ _ (by rintro (z | z | z) <;> exact absurd (hJ.1 _ _ (by omega) (by omega) z) (by omega)) xA14, hE1 _ _ (by rintro (z | z | z) <;> exact absurd (hJ.1 _ _ (by omega) (by omega) z) (by omega)) xA15, hE1 _ _ (by rintro (z | z | z) <;> exact absurd (hJ.1 _ _ (by omega) (by omega) z) (by omega)) xA16, hE1 _ _ (by rintro (z | z | z) <;> exact absurd (hJ.1 _ _ (by omega) (by omega) z) (by omega)) xA17, hE1 _ _ (by rintro (z | z | z) <;> exact absurd (hJ.1 _ _ (by omega) (by omega) z) (by omega)) xA18, hste, fun j2 hj2 => (xst j2 hj2).elim fun m hm => ⟨m, hE1 _ _ (by rintro (z | z | z) <;> exact absurd (hJ.1 _ _ (by omega) (by omega) z) (by omega)) hm⟩⟩ hE2 (fun j2 hj2 => by rintro (z | z | z) <;> exact hJ.2.2 _ _ hj2 (by unfold uB; omega) z) (by rintro (z | z | z) <;> exact hviB _ (by unfold uB; omega) z), ⟨m0, hE2 _ _ (by rintro (z | z | z) <;> exact absurd (hJ.2.1 _ _ (by omega) (by omega) z) (by omega)) yB4, hE2 _ _ (by rintro (z | z | z) <;> exact absurd (hJ.2.1 _ _ (by omega) (by omega) z) (by omega)) yB5, hE2 _ _ (by rintro (z | z | z) <;> exact absurd (hJ.2.1 _ _ (by omega) (by omega) z) (by omega)) yB6, m2, m1, hE2 _ _ (by rintro (z | z | z) <;> exact absurd (hJ.2.1 _ _ (by omega) (by omega) z) (by omega)) yB10, hE2 _ _ (by rintro (z | z | z) <;> exact absurd (hJ.2.1 _ _ (by omega) (by omega) z) (by omega)) yB11, hE2 _ _ (by rintro (z | z | z) <;> exact absurd (hJ.2.1 _ _ (by omega) (by omega) z) (by omega)) yB12, hE2 _ _ (by rintro (z | z | z) <;> exact absurd (hJ.2.1 _ _ (by omega) (by omega) z) (by omega)) yB18, hE2 _ _ (by rintro (z | z | z) <;> exact absurd (hJ.2.1 _ _ (by omega) (by omega) z) (by omega)) yB19, hE2 _ _ (by rintro (z | z | z) <;> exact absurd (hJ.2.1 _ _ (by omega) (by omega) z) (by omega)) yB20, hE2 _ _ (by rintro (z | z | z) <;> exact absurd (hJ.2.1 _ _ (by omega) (by omega) z) (by omega)) yB21, hE2 _ _ (by rintro (z | z | z) <;> exact absurd (hJ.2.1 _ _ (by omega) (by omega) z) (by omega)) yB22, hE2 _ _ (by rintro (z | z | z) <;> exact absurd (hJ.2.1 _ _ (by omega) (by omega) z) (by omega)) yB24, hE2 _ _ (by rintro (z | z | z) <;> exact absurd (hJ.2.1 _ _ (by omega) (by omega) z) (by omega)) yB25, hE2 _ _ (by rintro (z | z | z) <;> exact absurd (hJ.2.1 _ _ (by omega) (by omega) z) (by omega)) yB26, hE2 _ _ (by rintro (z | z | z) <;> exact absurd (hJ.2.1 _ _ (by omega) (by omega) z) (by omega)) yB27, hE2 _ _ (by rintro (z | z | z) <;> exact absurd (hJ.2.1 _ _ (by omega) (by omega) z) (by omega)) yB28, hE2 _ _ (by rintro (z | z | z) <;> exact absurd (hJ.2.1 _ _ (by omega) (by omega) z) (by omega)) yB29⟩, hR1, hvi, hviB⟩ (by omega) (by omega)
set_option maxHeartbeats 4000000 in
set_option maxRecDepth 100000 in
theorem op_hang (hC : Cx g X RL cL_law 4 ret room_1) (hX : SCR X b L xs) (hg : b < gB g) (hL : L ≤ 256) (hJ : IJ A B) (hS : LwS g A B w) (hi : i + 4 ≤ L) (hk : k + 2 ≤ 600000) (hn : n + 16 ≤ 7302250) (kk : ∀ (w2 : Wd) (k2 n2 : Nat), LwS g A B w2 → k2 ≤ k + 2 → n2 ≤ n + 16 → V g X 4 w2 k2 n2 1222 [(3, .int (nI i)), (2, .ref (B 0)), (1, .ref (A 0)), (0, .ref b)] []) : V g X 4 w k n 470 [(3, .int (nI i)), (2, .ref (B 0)), (1, .ref (A 0)), (0, .ref b)] [] := by
  obtain ⟨vi, cv, kS, seed, tl, bytes, v, now, thought, st, ct, before, slots, steps, bs, ss, sc, kinds, moons, places, values, (⟨tp, aw, us, sh⟩), fits, left, needs, th, xat, xrh, xrp, xrw, path, home, kin, a, was, kept, isKept, text, rdPath, rdHome, rdKin, rd, sight, went, tales, tests, votes, begun, between, hW, hM, hR, hvi, hviB⟩ := hS
  obtain ⟨xA0, xA1, xA2, xvi, xA3, xA4, xA5, xA6, hbef, xbs, xA7, hslo, xss, xA8, xA9, xA10, xA11, xA12, xA13, xA14, xA15, xA16, xA17, xA18, hste, xst⟩ := hW
  have hix := actIx_lt st ct
  refine vv_aload_n hC 2 dL_law_470 rfl rfl ?_
  refine vv_aload_n hC 3 dL_law_471 rfl rfl ?_
  refine vv_iload_n hC 0 dL_law_472 rfl rfl ?_
  refine vv_iconst (v := nI 1) hC dL_law_473 rfl ?_
  refine vv_iadd hC dL_law_474 ?_
  refine vv_topi (nI (i + 1)) (nI_add i 1) ?_
  refine vv_sld hC hX hg (i + 1) (by omega) (by omega) dL_law_475 ?_
  refine vv_callV hC dL_law_476 md_X8_hang lk_m_L_59 lk_i_X8_hang lk_s_X8_hang xA0 rfl (As := [.int (xs (i + 1))]) (rest := []) (c_X8_hang g _ A hJ.1 vi _ kS seed v now st ct before _ (xs (i + 1)) hR.2.2.1.1 hR.2.2.1.2.1 (hbef _ (actIx_lt _ _)) xA0 xvi xA3 xA5 xA6 (xbs _ (actIx_lt _ _)) (na hJ.1 (by omega) (by omega) (by omega))) rfl rfl (Nat.le_of_ble_eq_true rfl) ⟨Nat.le_of_ble_eq_true rfl, Nat.le_of_ble_eq_true rfl, (by show k + 0 ≤ 600000; omega), (by show n + 0 ≤ 7302250; omega)⟩ (fun r w1 hq => ?_)
  obtain ⟨rfl, e0, e1, e_el, hE1⟩ := hq
  have hM1 := hM.keep hE1 (fun j2 hj2 => by rintro (z | z | z) <;> exact hJ.2.2 _ _ (by unfold uA; omega) hj2 z.symm)
  obtain ⟨yB0, yB4, yB5, yB6, yB7, yB8, yB10, yB11, yB12, yB18, yB19, yB20, yB21, yB22, yB24, yB25, yB26, yB27, yB28, yB29⟩ := hM1
  refine vv_aload_n hC 1 dL_law_479 rfl rfl ?_
  refine vv_aload_n hC 3 dL_law_480 rfl rfl ?_
  refine vv_iload_n hC 0 dL_law_481 rfl rfl ?_
  refine vv_iconst (v := nI 1) hC dL_law_482 rfl ?_
  refine vv_iadd hC dL_law_483 ?_
  refine vv_topi (nI (i + 1)) (nI_add i 1) ?_
  refine vv_sld hC hX hg (i + 1) (by omega) (by omega) dL_law_484 ?_
  refine vv_callV hC dL_law_485 md_X9_hang lk_m_L_62 lk_i_X9_hang lk_s_X9_hang yB0 rfl (As := [.int (xs (i + 1))]) (rest := [.int _]) (c_X9_hang g _ B hJ.2.1 th (gVi_houses v) (gVi_people v) (gVi_pathCount v) ct tl xat xrh xrp xrw sc seed a was (xs (i + 1)) hR.1.hP hR.2.2.1.2.1 yB0 yB7 yB8) rfl rfl (Nat.le_of_ble_eq_true rfl) ⟨Nat.le_of_ble_eq_true rfl, Nat.le_of_ble_eq_true rfl, (by show k + 0 + 0 ≤ 600000; omega), (by show n + 0 + 0 ≤ 7302250; omega)⟩ (fun r w2 hq => ?_)
  obtain ⟨rfl, m0, m1, m2, hE2⟩ := hq
  obtain ⟨hq1, hq2, hR1⟩ := q_hang hR (xs (i + 1)) _ rfl
  rw [← hq2] at m0
  refine vv_icmp_eq hC 1222 dL_law_488 (by decide) (fun _ => ?_) (fun z => absurd hq1 z)
  refine kk w2 _ _ ⟨_, _, _, _, _, _, _, _, _, _, _, _, _, _, _, _, _, _, _, _, _, _, _, _, _, _, _, _, _, _, _, _, _, _, _, _, _, _, _, _, _, _, _, _, _, _, _, _, _, WX.keep ⟨hE1 _ _ (by rintro (z | z | z) <;> exact absurd (hJ.1 _ _ (by omega) (by omega) z) (by omega)) xA0, hE1 _ _ (by rintro (z | z | z) <;> exact absurd (hJ.1 _ _ (by omega) (by omega) z) (by omega)) xA1, hE1 _ _ (by rintro (z | z | z) <;> exact absurd (hJ.1 _ _ (by omega) (by omega) z) (by omega)) xA2, hE1 _ _ (by rintro (z | z | z) <;> exact hvi _ (by unfold uA; omega) z) xvi, e0, hE1 _ _ (by rintro (z | z | z) <;> exact absurd (hJ.1 _ _ (by omega) (by omega) z) (by omega)) xA4, e1, hE1 _ _ (by rintro (z | z | z) <;> exact absurd (hJ.1 _ _ (by omega) (by omega) z) (by omega)) xA6, hbef, (fun j hj => by
        unfold va_up
        by_cases e : j = actIx st ct
        · rw [e, if_pos rfl]; exact e_el
        · rw [if_neg e]; exact hE1 _ _ (by rintro (z | z | z) <;> exact absurd (hJ.1 _ _ (by omega) (by omega) z) (by omega)) (xbs j hj)), hE1 _ _ (by rintro (z | z | z) <;> exact absurd (hJ.1 _ _ (by omega) (by omega) z) (by omega)) xA7, hslo, fun j2 hj2 => hE1 _ _ (by rintro (z | z | z) <;> exact absurd (hJ.1 _ _ (by omega) (by omega) z) (by omega)) (xss j2 hj2), hE1 _ _ (by rintro (z | z | z) <;> exact absurd (hJ.1 _ _ (by omega) (by omega) z) (by omega)) xA8, hE1 _ _ (by rintro (z | z | z) <;> exact absurd (hJ.1 _ _ (by omega) (by omega) z) (by omega)) xA9, hE1 _ _ (by rintro (z | z | z) <;> exact absurd (hJ.1 _ _ (by omega) (by omega) z) (by omega)) xA10, hE1 _ _ (by rintro (z | z | z) <;> exact absurd (hJ.1 _ _ (by omega) (by omega) z) (by omega)) xA11, hE1 _ _ (by rintro (z | z | z) <;> exact absurd (hJ.1 _ _ (by omega) (by omega) z) (by omega)) xA12, hE1 _ _ (by rintro (z | z | z) <;> exact absurd (hJ.1 _ _ (by omega) (by omega) z) (by omega)) xA13, hE1 _ _ (by rintro (z | z | z) <;> exact absurd (hJ.1 _ _ (by omega) (by omega) z) (by omega)) xA14, hE1 _ _ (by rintro (z | z | z) <;> exact absurd (hJ.1 _ _ (by omega) (by omega) z) (by omega)) xA15, hE1 _ _ (by rintro (z | z | z) <;> exact absurd (hJ.1 _ _ (by omega) (by omega) z) (by omega)) xA16, hE1 _ _ (by rintro (z | z | z) <;> exact absurd (hJ.1 _ _ (by omega) (by omega) z) (by omega)) xA17, hE1 _ _ (by rintro (z | z | z) <;> exact absurd (hJ.1 _ _ (by omega) (by omega) z) (by omega)) xA18, hste, fun j2 hj2 => (xst j2 hj2).elim fun m hm => ⟨m, hE1 _ _ (by rintro (z | z | z) <;> exact absurd (hJ.1 _ _ (by omega) (by omega) z) (by omega)) hm⟩⟩ hE2 (fun j2 hj2 => by rintro (z | z | z) <;> exact hJ.2.2 _ _ hj2 (by unfold uB; omega) z) (by rintro (z | z | z) <;> exact hviB _ (by unfold uB; omega) z), ⟨m0, hE2 _ _ (by rintro (z | z | z) <;> exact absurd (hJ.2.1 _ _ (by omega) (by omega) z) (by omega)) yB4, hE2 _ _ (by rintro (z | z | z) <;> exact absurd (hJ.2.1 _ _ (by omega) (by omega) z) (by omega)) yB5, hE2 _ _ (by rintro (z | z | z) <;> exact absurd (hJ.2.1 _ _ (by omega) (by omega) z) (by omega)) yB6, m1, m2, hE2 _ _ (by rintro (z | z | z) <;> exact absurd (hJ.2.1 _ _ (by omega) (by omega) z) (by omega)) yB10, hE2 _ _ (by rintro (z | z | z) <;> exact absurd (hJ.2.1 _ _ (by omega) (by omega) z) (by omega)) yB11, hE2 _ _ (by rintro (z | z | z) <;> exact absurd (hJ.2.1 _ _ (by omega) (by omega) z) (by omega)) yB12, hE2 _ _ (by rintro (z | z | z) <;> exact absurd (hJ.2.1 _ _ (by omega) (by omega) z) (by omega)) yB18, hE2 _ _ (by rintro (z | z | z) <;> exact absurd (hJ.2.1 _ _ (by omega) (by omega) z) (by omega)) yB19, hE2 _ _ (by rintro (z | z | z) <;> exact absurd (hJ.2.1 _ _ (by omega) (by omega) z) (by omega)) yB20, hE2 _ _ (by rintro (z | z | z) <;> exact absurd (hJ.2.1 _ _ (by omega) (by omega) z) (by omega)) yB21, hE2 _ _ (by rintro (z | z | z) <;> exact absurd (hJ.2.1 _ _ (by omega) (by omega) z) (by omega)) yB22, hE2 _ _ (by rintro (z | z | z) <;> exact absurd (hJ.2.1 _ _ (by omega) (by omega) z) (by omega)) yB24, hE2 _ _ (by rintro (z | z | z) <;> exact absurd (hJ.2.1 _ _ (by omega) (by omega) z) (by omega)) yB25, hE2 _ _ (by rintro (z | z | z) <;> exact absurd (hJ.2.1 _ _ (by omega) (by omega) z) (by omega)) yB26, hE2 _ _ (by rintro (z | z | z) <;> exact absurd (hJ.2.1 _ _ (by omega) (by omega) z) (by omega)) yB27, hE2 _ _ (by rintro (z | z | z) <;> exact absurd (hJ.2.1 _ _ (by omega) (by omega) z) (by omega)) yB28, hE2 _ _ (by rintro (z | z | z) <;> exact absurd (hJ.2.1 _ _ (by omega) (by omega) z) (by omega)) yB29⟩, hR1, hvi, hviB⟩ (by omega) (by omega)
set_option maxHeartbeats 4000000 in
set_option maxRecDepth 100000 in
theorem op_bolt (hC : Cx g X RL cL_law 4 ret room_1) (hX : SCR X b L xs) (hg : b < gB g) (hL : L ≤ 256) (hJ : IJ A B) (hS : LwS g A B w) (hi : i + 4 ≤ L) (hk : k + 2 ≤ 600000) (hn : n + 16 ≤ 7302250) (kk : ∀ (w2 : Wd) (k2 n2 : Nat), LwS g A B w2 → k2 ≤ k + 2 → n2 ≤ n + 16 → V g X 4 w2 k2 n2 1222 [(3, .int (nI i)), (2, .ref (B 0)), (1, .ref (A 0)), (0, .ref b)] []) : V g X 4 w k n 493 [(3, .int (nI i)), (2, .ref (B 0)), (1, .ref (A 0)), (0, .ref b)] [] := by
  obtain ⟨vi, cv, kS, seed, tl, bytes, v, now, thought, st, ct, before, slots, steps, bs, ss, sc, kinds, moons, places, values, (⟨tp, aw, us, sh⟩), fits, left, needs, th, xat, xrh, xrp, xrw, path, home, kin, a, was, kept, isKept, text, rdPath, rdHome, rdKin, rd, sight, went, tales, tests, votes, begun, between, hW, hM, hR, hvi, hviB⟩ := hS
  obtain ⟨xA0, xA1, xA2, xvi, xA3, xA4, xA5, xA6, hbef, xbs, xA7, hslo, xss, xA8, xA9, xA10, xA11, xA12, xA13, xA14, xA15, xA16, xA17, xA18, hste, xst⟩ := hW
  have hix := actIx_lt st ct
  refine vv_aload_n hC 2 dL_law_493 rfl rfl ?_
  refine vv_aload_n hC 3 dL_law_494 rfl rfl ?_
  refine vv_iload_n hC 0 dL_law_495 rfl rfl ?_
  refine vv_iconst (v := nI 1) hC dL_law_496 rfl ?_
  refine vv_iadd hC dL_law_497 ?_
  refine vv_topi (nI (i + 1)) (nI_add i 1) ?_
  refine vv_sld hC hX hg (i + 1) (by omega) (by omega) dL_law_498 ?_
  refine vv_aload_n hC 3 dL_law_499 rfl rfl ?_
  refine vv_iload_n hC 0 dL_law_500 rfl rfl ?_
  refine vv_iconst (v := nI 2) hC dL_law_501 rfl ?_
  refine vv_iadd hC dL_law_502 ?_
  refine vv_topi (nI (i + 2)) (nI_add i 2) ?_
  refine vv_sld hC hX hg (i + 2) (by omega) (by omega) dL_law_503 ?_
  refine vv_callV hC dL_law_504 md_X8_bolt lk_m_L_63 lk_i_X8_bolt lk_s_X8_bolt xA0 rfl (As := [.int (xs (i + 1)), .int (xs (i + 2))]) (rest := []) (c_X8_bolt g _ A hJ.1 vi _ kS seed v now st ct before _ (xs (i + 1)) (xs (i + 2)) hR.2.2.1.1 hR.2.2.1.2.1 (hbef _ (actIx_lt _ _)) xA0 xvi xA3 xA5 xA6 (xbs _ (actIx_lt _ _)) (na hJ.1 (by omega) (by omega) (by omega))) rfl rfl (Nat.le_of_ble_eq_true rfl) ⟨Nat.le_of_ble_eq_true rfl, Nat.le_of_ble_eq_true rfl, (by show k + 0 ≤ 600000; omega), (by show n + 0 ≤ 7302250; omega)⟩ (fun r w1 hq => ?_)
  obtain ⟨rfl, e0, e1, e_el, hE1⟩ := hq
  have hM1 := hM.keep hE1 (fun j2 hj2 => by rintro (z | z | z) <;> exact hJ.2.2 _ _ (by unfold uA; omega) hj2 z.symm)
  obtain ⟨yB0, yB4, yB5, yB6, yB7, yB8, yB10, yB11, yB12, yB18, yB19, yB20, yB21, yB22, yB24, yB25, yB26, yB27, yB28, yB29⟩ := hM1
  refine vv_aload_n hC 1 dL_law_507 rfl rfl ?_
  refine vv_aload_n hC 3 dL_law_508 rfl rfl ?_
  refine vv_iload_n hC 0 dL_law_509 rfl rfl ?_
  refine vv_iconst (v := nI 1) hC dL_law_510 rfl ?_
  refine vv_iadd hC dL_law_511 ?_
  refine vv_topi (nI (i + 1)) (nI_add i 1) ?_
  refine vv_sld hC hX hg (i + 1) (by omega) (by omega) dL_law_512 ?_
  refine vv_aload_n hC 3 dL_law_513 rfl rfl ?_
  refine vv_iload_n hC 0 dL_law_514 rfl rfl ?_
  refine vv_iconst (v := nI 2) hC dL_law_515 rfl ?_
  refine vv_iadd hC dL_law_516 ?_
  refine vv_topi (nI (i + 2)) (nI_add i 2) ?_
  refine vv_sld hC hX hg (i + 2) (by omega) (by omega) dL_law_517 ?_
  refine vv_callV hC dL_law_518 md_X9_bolt lk_m_L_66 lk_i_X9_bolt lk_s_X9_bolt yB0 rfl (As := [.int (xs (i + 1)), .int (xs (i + 2))]) (rest := [.int _]) (c_X9_bolt g _ B hJ.2.1 th (gVi_houses v) (gVi_people v) (gVi_pathCount v) ct tl xat xrh xrp xrw sc seed a was (xs (i + 1)) (xs (i + 2)) hR.1.hH hR.2.2.1.2.1 yB0 yB7 yB8) rfl rfl (Nat.le_of_ble_eq_true rfl) ⟨Nat.le_of_ble_eq_true rfl, Nat.le_of_ble_eq_true rfl, (by show k + 0 + 0 ≤ 600000; omega), (by show n + 0 + 0 ≤ 7302250; omega)⟩ (fun r w2 hq => ?_)
  obtain ⟨rfl, m0, m1, m2, hE2⟩ := hq
  obtain ⟨hq1, hq2, hR1⟩ := q_bolt hR (xs (i + 1)) (xs (i + 2)) _ rfl
  rw [← hq2] at m0
  refine vv_icmp_eq hC 1222 dL_law_521 (by decide) (fun _ => ?_) (fun z => absurd hq1 z)
  refine kk w2 _ _ ⟨_, _, _, _, _, _, _, _, _, _, _, _, _, _, _, _, _, _, _, _, _, _, _, _, _, _, _, _, _, _, _, _, _, _, _, _, _, _, _, _, _, _, _, _, _, _, _, _, _, WX.keep ⟨hE1 _ _ (by rintro (z | z | z) <;> exact absurd (hJ.1 _ _ (by omega) (by omega) z) (by omega)) xA0, hE1 _ _ (by rintro (z | z | z) <;> exact absurd (hJ.1 _ _ (by omega) (by omega) z) (by omega)) xA1, hE1 _ _ (by rintro (z | z | z) <;> exact absurd (hJ.1 _ _ (by omega) (by omega) z) (by omega)) xA2, hE1 _ _ (by rintro (z | z | z) <;> exact hvi _ (by unfold uA; omega) z) xvi, e0, hE1 _ _ (by rintro (z | z | z) <;> exact absurd (hJ.1 _ _ (by omega) (by omega) z) (by omega)) xA4, e1, hE1 _ _ (by rintro (z | z | z) <;> exact absurd (hJ.1 _ _ (by omega) (by omega) z) (by omega)) xA6, hbef, (fun j hj => by
        unfold va_up
        by_cases e : j = actIx st ct
        · rw [e, if_pos rfl]; exact e_el
        · rw [if_neg e]; exact hE1 _ _ (by rintro (z | z | z) <;> exact absurd (hJ.1 _ _ (by omega) (by omega) z) (by omega)) (xbs j hj)), hE1 _ _ (by rintro (z | z | z) <;> exact absurd (hJ.1 _ _ (by omega) (by omega) z) (by omega)) xA7, hslo, fun j2 hj2 => hE1 _ _ (by rintro (z | z | z) <;> exact absurd (hJ.1 _ _ (by omega) (by omega) z) (by omega)) (xss j2 hj2), hE1 _ _ (by rintro (z | z | z) <;> exact absurd (hJ.1 _ _ (by omega) (by omega) z) (by omega)) xA8, hE1 _ _ (by rintro (z | z | z) <;> exact absurd (hJ.1 _ _ (by omega) (by omega) z) (by omega)) xA9, hE1 _ _ (by rintro (z | z | z) <;> exact absurd (hJ.1 _ _ (by omega) (by omega) z) (by omega)) xA10, hE1 _ _ (by rintro (z | z | z) <;> exact absurd (hJ.1 _ _ (by omega) (by omega) z) (by omega)) xA11, hE1 _ _ (by rintro (z | z | z) <;> exact absurd (hJ.1 _ _ (by omega) (by omega) z) (by omega)) xA12, hE1 _ _ (by rintro (z | z | z) <;> exact absurd (hJ.1 _ _ (by omega) (by omega) z) (by omega)) xA13, hE1 _ _ (by rintro (z | z | z) <;> exact absurd (hJ.1 _ _ (by omega) (by omega) z) (by omega)) xA14, hE1 _ _ (by rintro (z | z | z) <;> exact absurd (hJ.1 _ _ (by omega) (by omega) z) (by omega)) xA15, hE1 _ _ (by rintro (z | z | z) <;> exact absurd (hJ.1 _ _ (by omega) (by omega) z) (by omega)) xA16, hE1 _ _ (by rintro (z | z | z) <;> exact absurd (hJ.1 _ _ (by omega) (by omega) z) (by omega)) xA17, hE1 _ _ (by rintro (z | z | z) <;> exact absurd (hJ.1 _ _ (by omega) (by omega) z) (by omega)) xA18, hste, fun j2 hj2 => (xst j2 hj2).elim fun m hm => ⟨m, hE1 _ _ (by rintro (z | z | z) <;> exact absurd (hJ.1 _ _ (by omega) (by omega) z) (by omega)) hm⟩⟩ hE2 (fun j2 hj2 => by rintro (z | z | z) <;> exact hJ.2.2 _ _ hj2 (by unfold uB; omega) z) (by rintro (z | z | z) <;> exact hviB _ (by unfold uB; omega) z), ⟨m0, hE2 _ _ (by rintro (z | z | z) <;> exact absurd (hJ.2.1 _ _ (by omega) (by omega) z) (by omega)) yB4, hE2 _ _ (by rintro (z | z | z) <;> exact absurd (hJ.2.1 _ _ (by omega) (by omega) z) (by omega)) yB5, hE2 _ _ (by rintro (z | z | z) <;> exact absurd (hJ.2.1 _ _ (by omega) (by omega) z) (by omega)) yB6, m1, m2, hE2 _ _ (by rintro (z | z | z) <;> exact absurd (hJ.2.1 _ _ (by omega) (by omega) z) (by omega)) yB10, hE2 _ _ (by rintro (z | z | z) <;> exact absurd (hJ.2.1 _ _ (by omega) (by omega) z) (by omega)) yB11, hE2 _ _ (by rintro (z | z | z) <;> exact absurd (hJ.2.1 _ _ (by omega) (by omega) z) (by omega)) yB12, hE2 _ _ (by rintro (z | z | z) <;> exact absurd (hJ.2.1 _ _ (by omega) (by omega) z) (by omega)) yB18, hE2 _ _ (by rintro (z | z | z) <;> exact absurd (hJ.2.1 _ _ (by omega) (by omega) z) (by omega)) yB19, hE2 _ _ (by rintro (z | z | z) <;> exact absurd (hJ.2.1 _ _ (by omega) (by omega) z) (by omega)) yB20, hE2 _ _ (by rintro (z | z | z) <;> exact absurd (hJ.2.1 _ _ (by omega) (by omega) z) (by omega)) yB21, hE2 _ _ (by rintro (z | z | z) <;> exact absurd (hJ.2.1 _ _ (by omega) (by omega) z) (by omega)) yB22, hE2 _ _ (by rintro (z | z | z) <;> exact absurd (hJ.2.1 _ _ (by omega) (by omega) z) (by omega)) yB24, hE2 _ _ (by rintro (z | z | z) <;> exact absurd (hJ.2.1 _ _ (by omega) (by omega) z) (by omega)) yB25, hE2 _ _ (by rintro (z | z | z) <;> exact absurd (hJ.2.1 _ _ (by omega) (by omega) z) (by omega)) yB26, hE2 _ _ (by rintro (z | z | z) <;> exact absurd (hJ.2.1 _ _ (by omega) (by omega) z) (by omega)) yB27, hE2 _ _ (by rintro (z | z | z) <;> exact absurd (hJ.2.1 _ _ (by omega) (by omega) z) (by omega)) yB28, hE2 _ _ (by rintro (z | z | z) <;> exact absurd (hJ.2.1 _ _ (by omega) (by omega) z) (by omega)) yB29⟩, hR1, hvi, hviB⟩ (by omega) (by omega)
set_option maxHeartbeats 4000000 in
set_option maxRecDepth 100000 in
theorem op_undo (hC : Cx g X RL cL_law 4 ret room_1) (hX : SCR X b L xs) (hg : b < gB g) (hL : L ≤ 256) (hJ : IJ A B) (hS : LwS g A B w) (hi : i + 4 ≤ L) (hk : k + 2 ≤ 600000) (hn : n + 16 ≤ 7302250) (kk : ∀ (w2 : Wd) (k2 n2 : Nat), LwS g A B w2 → k2 ≤ k + 2 → n2 ≤ n + 16 → V g X 4 w2 k2 n2 1222 [(3, .int (nI i)), (2, .ref (B 0)), (1, .ref (A 0)), (0, .ref b)] []) : V g X 4 w k n 526 [(3, .int (nI i)), (2, .ref (B 0)), (1, .ref (A 0)), (0, .ref b)] [] := by
  obtain ⟨vi, cv, kS, seed, tl, bytes, v, now, thought, st, ct, before, slots, steps, bs, ss, sc, kinds, moons, places, values, (⟨tp, aw, us, sh⟩), fits, left, needs, th, xat, xrh, xrp, xrw, path, home, kin, a, was, kept, isKept, text, rdPath, rdHome, rdKin, rd, sight, went, tales, tests, votes, begun, between, hW, hM, hR, hvi, hviB⟩ := hS
  obtain ⟨xA0, xA1, xA2, xvi, xA3, xA4, xA5, xA6, hbef, xbs, xA7, hslo, xss, xA8, xA9, xA10, xA11, xA12, xA13, xA14, xA15, xA16, xA17, xA18, hste, xst⟩ := hW
  have hix := actIx_lt st ct
  refine vv_aload_n hC 2 dL_law_526 rfl rfl ?_
  refine vv_callV hC dL_law_527 md_X8_undo lk_m_L_67 lk_i_X8_undo lk_s_X8_undo xA0 rfl (As := []) (rest := []) (c_X8_undo g _ A hJ.1 vi _ kS seed st ct now before _ hR.2.2.1.1 hR.2.2.1.2.1 (hbef _ (Nat.mod_lt _ (by decide))) xA0 xA5 xA3 xA6 (xbs _ (Nat.mod_lt _ (by decide))) (na hJ.1 (by omega) (by omega) (by omega))) rfl rfl (Nat.le_of_ble_eq_true rfl) ⟨Nat.le_of_ble_eq_true rfl, Nat.le_of_ble_eq_true rfl, (by show k + 0 ≤ 600000; omega), (by show n + 0 ≤ 7302250; omega)⟩ (fun r w1 hq => ?_)
  obtain ⟨rfl, e0, e1, hE1⟩ := hq
  have hM1 := hM.keep hE1 (fun j2 hj2 => by rintro (z | z) <;> exact hJ.2.2 _ _ (by unfold uA; omega) hj2 z.symm)
  obtain ⟨yB0, yB4, yB5, yB6, yB7, yB8, yB10, yB11, yB12, yB18, yB19, yB20, yB21, yB22, yB24, yB25, yB26, yB27, yB28, yB29⟩ := hM1
  refine vv_aload_n hC 1 dL_law_530 rfl rfl ?_
  refine vv_callV hC dL_law_531 md_X9_undo lk_m_L_70 lk_i_X9_undo lk_s_X9_undo yB0 rfl (As := []) (rest := [.int _]) (c_X9_undo g _ B hJ.2.1 th (gVi_houses v) (gVi_people v) (gVi_pathCount v) ct tl xat xrh xrp xrw sc seed a was hR.2.2.1.2.1 yB0 yB7 yB8) rfl rfl (Nat.le_of_ble_eq_true rfl) ⟨Nat.le_of_ble_eq_true rfl, Nat.le_of_ble_eq_true rfl, (by show k + 0 + 0 ≤ 600000; omega), (by show n + 0 + 0 ≤ 7302250; omega)⟩ (fun r w2 hq => ?_)
  obtain ⟨rfl, m0, m1, hE2⟩ := hq
  obtain ⟨hq1, hq2, hR1⟩ := q_undo hR _ rfl
  rw [← hq2] at m0
  refine vv_icmp_eq hC 1222 dL_law_534 (by decide) (fun _ => ?_) (fun z => absurd hq1 z)
  refine kk w2 _ _ ⟨_, _, _, _, _, _, _, _, _, _, _, _, _, _, _, _, _, _, _, _, _, _, _, _, _, _, _, _, _, _, _, _, _, _, _, _, _, _, _, _, _, _, _, _, _, _, _, _, _, WX.keep ⟨hE1 _ _ (by rintro (z | z) <;> exact absurd (hJ.1 _ _ (by omega) (by omega) z) (by omega)) xA0, hE1 _ _ (by rintro (z | z) <;> exact absurd (hJ.1 _ _ (by omega) (by omega) z) (by omega)) xA1, hE1 _ _ (by rintro (z | z) <;> exact absurd (hJ.1 _ _ (by omega) (by omega) z) (by omega)) xA2, hE1 _ _ (by rintro (z | z) <;> exact hvi _ (by unfold uA; omega) z) xvi, e1, hE1 _ _ (by rintro (z | z) <;> exact absurd (hJ.1 _ _ (by omega) (by omega) z) (by omega)) xA4, e0, hE1 _ _ (by rintro (z | z) <;> exact absurd (hJ.1 _ _ (by omega) (by omega) z) (by omega)) xA6, hbef, fun j2 hj2 => hE1 _ _ (by rintro (z | z) <;> exact absurd (hJ.1 _ _ (by omega) (by omega) z) (by omega)) (xbs j2 hj2), hE1 _ _ (by rintro (z | z) <;> exact absurd (hJ.1 _ _ (by omega) (by omega) z) (by omega)) xA7, hslo, fun j2 hj2 => hE1 _ _ (by rintro (z | z) <;> exact absurd (hJ.1 _ _ (by omega) (by omega) z) (by omega)) (xss j2 hj2), hE1 _ _ (by rintro (z | z) <;> exact absurd (hJ.1 _ _ (by omega) (by omega) z) (by omega)) xA8, hE1 _ _ (by rintro (z | z) <;> exact absurd (hJ.1 _ _ (by omega) (by omega) z) (by omega)) xA9, hE1 _ _ (by rintro (z | z) <;> exact absurd (hJ.1 _ _ (by omega) (by omega) z) (by omega)) xA10, hE1 _ _ (by rintro (z | z) <;> exact absurd (hJ.1 _ _ (by omega) (by omega) z) (by omega)) xA11, hE1 _ _ (by rintro (z | z) <;> exact absurd (hJ.1 _ _ (by omega) (by omega) z) (by omega)) xA12, hE1 _ _ (by rintro (z | z) <;> exact absurd (hJ.1 _ _ (by omega) (by omega) z) (by omega)) xA13, hE1 _ _ (by rintro (z | z) <;> exact absurd (hJ.1 _ _ (by omega) (by omega) z) (by omega)) xA14, hE1 _ _ (by rintro (z | z) <;> exact absurd (hJ.1 _ _ (by omega) (by omega) z) (by omega)) xA15, hE1 _ _ (by rintro (z | z) <;> exact absurd (hJ.1 _ _ (by omega) (by omega) z) (by omega)) xA16, hE1 _ _ (by rintro (z | z) <;> exact absurd (hJ.1 _ _ (by omega) (by omega) z) (by omega)) xA17, hE1 _ _ (by rintro (z | z) <;> exact absurd (hJ.1 _ _ (by omega) (by omega) z) (by omega)) xA18, hste, fun j2 hj2 => (xst j2 hj2).elim fun m hm => ⟨m, hE1 _ _ (by rintro (z | z) <;> exact absurd (hJ.1 _ _ (by omega) (by omega) z) (by omega)) hm⟩⟩ hE2 (fun j2 hj2 => by rintro (z | z) <;> exact hJ.2.2 _ _ hj2 (by unfold uB; omega) z) (by rintro (z | z) <;> exact hviB _ (by unfold uB; omega) z), ⟨m0, hE2 _ _ (by rintro (z | z) <;> exact absurd (hJ.2.1 _ _ (by omega) (by omega) z) (by omega)) yB4, hE2 _ _ (by rintro (z | z) <;> exact absurd (hJ.2.1 _ _ (by omega) (by omega) z) (by omega)) yB5, hE2 _ _ (by rintro (z | z) <;> exact absurd (hJ.2.1 _ _ (by omega) (by omega) z) (by omega)) yB6, m1, hE2 _ _ (by rintro (z | z) <;> exact absurd (hJ.2.1 _ _ (by omega) (by omega) z) (by omega)) yB8, hE2 _ _ (by rintro (z | z) <;> exact absurd (hJ.2.1 _ _ (by omega) (by omega) z) (by omega)) yB10, hE2 _ _ (by rintro (z | z) <;> exact absurd (hJ.2.1 _ _ (by omega) (by omega) z) (by omega)) yB11, hE2 _ _ (by rintro (z | z) <;> exact absurd (hJ.2.1 _ _ (by omega) (by omega) z) (by omega)) yB12, hE2 _ _ (by rintro (z | z) <;> exact absurd (hJ.2.1 _ _ (by omega) (by omega) z) (by omega)) yB18, hE2 _ _ (by rintro (z | z) <;> exact absurd (hJ.2.1 _ _ (by omega) (by omega) z) (by omega)) yB19, hE2 _ _ (by rintro (z | z) <;> exact absurd (hJ.2.1 _ _ (by omega) (by omega) z) (by omega)) yB20, hE2 _ _ (by rintro (z | z) <;> exact absurd (hJ.2.1 _ _ (by omega) (by omega) z) (by omega)) yB21, hE2 _ _ (by rintro (z | z) <;> exact absurd (hJ.2.1 _ _ (by omega) (by omega) z) (by omega)) yB22, hE2 _ _ (by rintro (z | z) <;> exact absurd (hJ.2.1 _ _ (by omega) (by omega) z) (by omega)) yB24, hE2 _ _ (by rintro (z | z) <;> exact absurd (hJ.2.1 _ _ (by omega) (by omega) z) (by omega)) yB25, hE2 _ _ (by rintro (z | z) <;> exact absurd (hJ.2.1 _ _ (by omega) (by omega) z) (by omega)) yB26, hE2 _ _ (by rintro (z | z) <;> exact absurd (hJ.2.1 _ _ (by omega) (by omega) z) (by omega)) yB27, hE2 _ _ (by rintro (z | z) <;> exact absurd (hJ.2.1 _ _ (by omega) (by omega) z) (by omega)) yB28, hE2 _ _ (by rintro (z | z) <;> exact absurd (hJ.2.1 _ _ (by omega) (by omega) z) (by omega)) yB29⟩, hR1, hvi, hviB⟩ (by omega) (by omega)
end OPS
