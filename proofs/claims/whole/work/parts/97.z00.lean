section OPS
variable {g : GT} {X : CtxT} {A B : Nat → Nat} {w : Wd} {k n b L i : Nat} {xs : Nat → Int32}
set_option maxHeartbeats 4000000 in
set_option maxRecDepth 100000 in
theorem op_house (hC : Cx g X RL cL_law 4 ret room_1) (hX : SCR X b L xs) (hg : b < gB g) (hL : L ≤ 256) (hJ : IJ A B) (hS : LwS g A B w) (hi : i + 4 ≤ L) (hk : k + 2 ≤ 600000) (hn : n + 16 ≤ 7302250) (kk : ∀ (w2 : Wd) (k2 n2 : Nat), LwS g A B w2 → k2 ≤ k + 2 → n2 ≤ n + 16 → V g X 4 w2 k2 n2 1222 [(3, .int (nI i)), (2, .ref (B 0)), (1, .ref (A 0)), (0, .ref b)] []) : V g X 4 w k n 302 [(3, .int (nI i)), (2, .ref (B 0)), (1, .ref (A 0)), (0, .ref b)] [] := by
  obtain ⟨vi, cv, kS, seed, tl, bytes, v, now, thought, st, ct, before, slots, steps, bs, ss, sc, kinds, moons, places, values, (⟨tp, aw, us, sh⟩), fits, left, needs, th, xat, xrh, xrp, xrw, path, home, kin, a, was, kept, isKept, text, rdPath, rdHome, rdKin, rd, sight, went, tales, tests, votes, begun, between, hW, hM, hR, hvi, hviB⟩ := hS
  obtain ⟨xA0, xA1, xA2, xvi, xA3, xA4, xA5, xA6, hbef, xbs, xA7, hslo, xss, xA8, xA9, xA10, xA11, xA12, xA13, xA14, xA15, xA16, xA17, xA18, hste, xst⟩ := hW
  have hix := actIx_lt st ct
  refine vv_aload_n hC 2 dL_law_302 rfl rfl ?_
  refine vv_aload_n hC 3 dL_law_303 rfl rfl ?_
  refine vv_iload_n hC 0 dL_law_304 rfl rfl ?_
  refine vv_iconst (v := nI 1) hC dL_law_305 rfl ?_
  refine vv_iadd hC dL_law_306 ?_
  refine vv_topi (nI (i + 1)) (nI_add i 1) ?_
  refine vv_sld hC hX hg (i + 1) (by omega) (by omega) dL_law_307 ?_
  refine vv_aload_n hC 3 dL_law_308 rfl rfl ?_
  refine vv_iload_n hC 0 dL_law_309 rfl rfl ?_
  refine vv_iconst (v := nI 2) hC dL_law_310 rfl ?_
  refine vv_iadd hC dL_law_311 ?_
  refine vv_topi (nI (i + 2)) (nI_add i 2) ?_
  refine vv_sld hC hX hg (i + 2) (by omega) (by omega) dL_law_312 ?_
  refine vv_callV hC dL_law_313 md_X8_house lk_m_L_33 lk_i_X8_house lk_s_X8_house xA0 rfl (As := [.int (xs (i + 1)), .int (xs (i + 2))]) (rest := []) (c_X8_house g _ A hJ.1 vi kS seed v now (xs (i + 1)) (xs (i + 2)) hR.1.hH hR.1.hP xA0 xvi xA3) rfl rfl (Nat.le_of_ble_eq_true rfl) ⟨Nat.le_of_ble_eq_true rfl, Nat.le_of_ble_eq_true rfl, (by show k + 0 ≤ 600000; omega), (by show n + 0 ≤ 7302250; omega)⟩ (fun r w1 hq => ?_)
  obtain ⟨rfl, rfl⟩ := hq
  have hM1 := hM
  obtain ⟨yB0, yB4, yB5, yB6, yB7, yB8, yB10, yB11, yB12, yB18, yB19, yB20, yB21, yB22, yB24, yB25, yB26, yB27, yB28, yB29⟩ := hM1
  refine vv_aload_n hC 1 dL_law_316 rfl rfl ?_
  refine vv_aload_n hC 3 dL_law_317 rfl rfl ?_
  refine vv_iload_n hC 0 dL_law_318 rfl rfl ?_
  refine vv_iconst (v := nI 1) hC dL_law_319 rfl ?_
  refine vv_iadd hC dL_law_320 ?_
  refine vv_topi (nI (i + 1)) (nI_add i 1) ?_
  refine vv_sld hC hX hg (i + 1) (by omega) (by omega) dL_law_321 ?_
  refine vv_aload_n hC 3 dL_law_322 rfl rfl ?_
  refine vv_iload_n hC 0 dL_law_323 rfl rfl ?_
  refine vv_iconst (v := nI 2) hC dL_law_324 rfl ?_
  refine vv_iadd hC dL_law_325 ?_
  refine vv_topi (nI (i + 2)) (nI_add i 2) ?_
  refine vv_sld hC hX hg (i + 2) (by omega) (by omega) dL_law_326 ?_
  refine vv_callV hC dL_law_327 md_X9_house lk_m_L_37 lk_i_X9_house lk_s_X9_house yB0 rfl (As := [.int (xs (i + 1)), .int (xs (i + 2))]) (rest := [.int _]) (c_X9_house g _ B hJ.2.1 th (gVi_houses v) (gVi_people v) (gVi_pathCount v) ct tl xat xrh xrp xrw sc seed home a path (xs (i + 1)) (xs (i + 2)) hR.1.hP hR.1.hH yB0 yB5 yB7 yB4) rfl rfl (Nat.le_of_ble_eq_true rfl) ⟨Nat.le_of_ble_eq_true rfl, Nat.le_of_ble_eq_true rfl, (by show k + 0 + 0 ≤ 600000; omega), (by show n + 0 + 0 ≤ 7302250; omega)⟩ (fun r w2 hq => ?_)
  obtain ⟨rfl, m0, hE2⟩ := hq
  have hq1 := q_house hR (xs (i + 1)) (xs (i + 2))
  have hR1 := hR
  refine vv_icmp_eq hC 1222 dL_law_330 (by decide) (fun _ => ?_) (fun z => absurd hq1 z)
  refine kk w2 _ _ ⟨_, _, _, _, _, _, _, _, _, _, _, _, _, _, _, _, _, _, _, _, _, _, _, _, _, _, _, _, _, _, _, _, _, _, _, _, _, _, _, _, _, _, _, _, _, _, _, _, _, WX.keep ⟨xA0, xA1, xA2, xvi, xA3, xA4, xA5, xA6, hbef, xbs, xA7, hslo, xss, xA8, xA9, xA10, xA11, xA12, xA13, xA14, xA15, xA16, xA17, xA18, hste, xst⟩ hE2 (fun j2 hj2 => by rintro (z) <;> exact hJ.2.2 _ _ hj2 (by unfold uB; omega) z) (by rintro (z) <;> exact hviB _ (by unfold uB; omega) z), ⟨m0, hE2 _ _ (by rintro (z) <;> exact absurd (hJ.2.1 _ _ (by omega) (by omega) z) (by omega)) yB4, hE2 _ _ (by rintro (z) <;> exact absurd (hJ.2.1 _ _ (by omega) (by omega) z) (by omega)) yB5, hE2 _ _ (by rintro (z) <;> exact absurd (hJ.2.1 _ _ (by omega) (by omega) z) (by omega)) yB6, hE2 _ _ (by rintro (z) <;> exact absurd (hJ.2.1 _ _ (by omega) (by omega) z) (by omega)) yB7, hE2 _ _ (by rintro (z) <;> exact absurd (hJ.2.1 _ _ (by omega) (by omega) z) (by omega)) yB8, hE2 _ _ (by rintro (z) <;> exact absurd (hJ.2.1 _ _ (by omega) (by omega) z) (by omega)) yB10, hE2 _ _ (by rintro (z) <;> exact absurd (hJ.2.1 _ _ (by omega) (by omega) z) (by omega)) yB11, hE2 _ _ (by rintro (z) <;> exact absurd (hJ.2.1 _ _ (by omega) (by omega) z) (by omega)) yB12, hE2 _ _ (by rintro (z) <;> exact absurd (hJ.2.1 _ _ (by omega) (by omega) z) (by omega)) yB18, hE2 _ _ (by rintro (z) <;> exact absurd (hJ.2.1 _ _ (by omega) (by omega) z) (by omega)) yB19, hE2 _ _ (by rintro (z) <;> exact absurd (hJ.2.1 _ _ (by omega) (by omega) z) (by omega)) yB20, hE2 _ _ (by rintro (z) <;> exact absurd (hJ.2.1 _ _ (by omega) (by omega) z) (by omega)) yB21, hE2 _ _ (by rintro (z) <;> exact absurd (hJ.2.1 _ _ (by omega) (by omega) z) (by omega)) yB22, hE2 _ _ (by rintro (z) <;> exact absurd (hJ.2.1 _ _ (by omega) (by omega) z) (by omega)) yB24, hE2 _ _ (by rintro (z) <;> exact absurd (hJ.2.1 _ _ (by omega) (by omega) z) (by omega)) yB25, hE2 _ _ (by rintro (z) <;> exact absurd (hJ.2.1 _ _ (by omega) (by omega) z) (by omega)) yB26, hE2 _ _ (by rintro (z) <;> exact absurd (hJ.2.1 _ _ (by omega) (by omega) z) (by omega)) yB27, hE2 _ _ (by rintro (z) <;> exact absurd (hJ.2.1 _ _ (by omega) (by omega) z) (by omega)) yB28, hE2 _ _ (by rintro (z) <;> exact absurd (hJ.2.1 _ _ (by omega) (by omega) z) (by omega)) yB29⟩, hR1, hvi, hviB⟩ (by omega) (by omega)
set_option maxHeartbeats 4000000 in
set_option maxRecDepth 100000 in
theorem op_write (hC : Cx g X RL cL_law 4 ret room_1) (hX : SCR X b L xs) (hg : b < gB g) (hL : L ≤ 256) (hJ : IJ A B) (hS : LwS g A B w) (hi : i + 4 ≤ L) (hk : k + 2 ≤ 600000) (hn : n + 16 ≤ 7302250) (kk : ∀ (w2 : Wd) (k2 n2 : Nat), LwS g A B w2 → k2 ≤ k + 2 → n2 ≤ n + 16 → V g X 4 w2 k2 n2 1222 [(3, .int (nI i)), (2, .ref (B 0)), (1, .ref (A 0)), (0, .ref b)] []) : V g X 4 w k n 200 [(3, .int (nI i)), (2, .ref (B 0)), (1, .ref (A 0)), (0, .ref b)] [] := by
  obtain ⟨vi, cv, kS, seed, tl, bytes, v, now, thought, st, ct, before, slots, steps, bs, ss, sc, kinds, moons, places, values, (⟨tp, aw, us, sh⟩), fits, left, needs, th, xat, xrh, xrp, xrw, path, home, kin, a, was, kept, isKept, text, rdPath, rdHome, rdKin, rd, sight, went, tales, tests, votes, begun, between, hW, hM, hR, hvi, hviB⟩ := hS
  obtain ⟨xA0, xA1, xA2, xvi, xA3, xA4, xA5, xA6, hbef, xbs, xA7, hslo, xss, xA8, xA9, xA10, xA11, xA12, xA13, xA14, xA15, xA16, xA17, xA18, hste, xst⟩ := hW
  have hix := actIx_lt st ct
  refine vv_aload_n hC 2 dL_law_200 rfl rfl ?_
  refine vv_aload_n hC 3 dL_law_201 rfl rfl ?_
  refine vv_iload_n hC 0 dL_law_202 rfl rfl ?_
  refine vv_iconst (v := nI 1) hC dL_law_203 rfl ?_
  refine vv_iadd hC dL_law_204 ?_
  refine vv_topi (nI (i + 1)) (nI_add i 1) ?_
  refine vv_sld hC hX hg (i + 1) (by omega) (by omega) dL_law_205 ?_
  refine vv_aload_n hC 3 dL_law_206 rfl rfl ?_
  refine vv_iload_n hC 0 dL_law_207 rfl rfl ?_
  refine vv_iconst (v := nI 2) hC dL_law_208 rfl ?_
  refine vv_iadd hC dL_law_209 ?_
  refine vv_topi (nI (i + 2)) (nI_add i 2) ?_
  refine vv_sld hC hX hg (i + 2) (by omega) (by omega) dL_law_210 ?_
  refine vv_i2l hC dL_law_211 ?_
  refine vv_bipush (v := 32) hC dL_law_212 (by decide) ?_
  refine vv_lshl hC dL_law_214 ?_
  refine vv_aload_n hC 3 dL_law_215 rfl rfl ?_
  refine vv_iload_n hC 0 dL_law_216 rfl rfl ?_
  refine vv_iconst (v := nI 3) hC dL_law_217 rfl ?_
  refine vv_iadd hC dL_law_218 ?_
  refine vv_topi (nI (i + 3)) (nI_add i 3) ?_
  refine vv_sld hC hX hg (i + 3) (by omega) (by omega) dL_law_219 ?_
  refine vv_i2l hC dL_law_220 ?_
  refine vv_ldc2 hC lk_l_L_13 dL_law_221 ?_
  refine vv_land hC dL_law_224 ?_
  refine vv_lor hC dL_law_225 ?_
  refine vv_callV hC dL_law_226 md_X8_write lk_m_L_15 lk_i_X8_write lk_s_X8_write xA0 rfl (As := [.int (xs (i + 1)), .long ((lshl ((xs (i + 2)).toInt64) (32 : Int32)) ||| (((xs (i + 3)).toInt64) &&& (4294967295 : Int64)))]) (rest := []) (c_X8_write g _ A hJ.1 vi kS seed tl bytes (xs (i + 1)) ((lshl ((xs (i + 2)).toInt64) (32 : Int32)) ||| (((xs (i + 3)).toInt64) &&& (4294967295 : Int64))) hR.2.2.2.2.2.1 xA0 xA1 xA2) rfl rfl (Nat.le_of_ble_eq_true rfl) ⟨Nat.le_of_ble_eq_true rfl, Nat.le_of_ble_eq_true rfl, (by show k + 0 ≤ 600000; omega), (by show n + 0 ≤ 7302250; omega)⟩ (fun r w1 hq => ?_)
  obtain ⟨rfl, e0, e1, hE1⟩ := hq
  have hM1 := hM.keep hE1 (fun j2 hj2 => by rintro (z | z) <;> exact hJ.2.2 _ _ (by unfold uA; omega) hj2 z.symm)
  obtain ⟨yB0, yB4, yB5, yB6, yB7, yB8, yB10, yB11, yB12, yB18, yB19, yB20, yB21, yB22, yB24, yB25, yB26, yB27, yB28, yB29⟩ := hM1
  refine vv_aload_n hC 1 dL_law_229 rfl rfl ?_
  refine vv_aload_n hC 3 dL_law_230 rfl rfl ?_
  refine vv_iload_n hC 0 dL_law_231 rfl rfl ?_
  refine vv_iconst (v := nI 1) hC dL_law_232 rfl ?_
  refine vv_iadd hC dL_law_233 ?_
  refine vv_topi (nI (i + 1)) (nI_add i 1) ?_
  refine vv_sld hC hX hg (i + 1) (by omega) (by omega) dL_law_234 ?_
  refine vv_aload_n hC 3 dL_law_235 rfl rfl ?_
  refine vv_iload_n hC 0 dL_law_236 rfl rfl ?_
  refine vv_iconst (v := nI 2) hC dL_law_237 rfl ?_
  refine vv_iadd hC dL_law_238 ?_
  refine vv_topi (nI (i + 2)) (nI_add i 2) ?_
  refine vv_sld hC hX hg (i + 2) (by omega) (by omega) dL_law_239 ?_
  refine vv_i2l hC dL_law_240 ?_
  refine vv_bipush (v := 32) hC dL_law_241 (by decide) ?_
  refine vv_lshl hC dL_law_243 ?_
  refine vv_aload_n hC 3 dL_law_244 rfl rfl ?_
  refine vv_iload_n hC 0 dL_law_245 rfl rfl ?_
  refine vv_iconst (v := nI 3) hC dL_law_246 rfl ?_
  refine vv_iadd hC dL_law_247 ?_
  refine vv_topi (nI (i + 3)) (nI_add i 3) ?_
  refine vv_sld hC hX hg (i + 3) (by omega) (by omega) dL_law_248 ?_
  refine vv_i2l hC dL_law_249 ?_
  refine vv_ldc2 hC lk_l_L_13 dL_law_250 ?_
  refine vv_land hC dL_law_253 ?_
  refine vv_lor hC dL_law_254 ?_
  refine vv_callV hC dL_law_255 md_X9_write lk_m_L_19 lk_i_X9_write lk_s_X9_write yB0 rfl (As := [.int (xs (i + 1)), .long ((lshl ((xs (i + 2)).toInt64) (32 : Int32)) ||| (((xs (i + 3)).toInt64) &&& (4294967295 : Int64)))]) (rest := [.int _]) (c_X9_write g _ B hJ.2.1 th (gVi_houses v) (gVi_people v) (gVi_pathCount v) ct tl xat xrh xrp xrw sc seed text (xs (i + 1)) ((lshl ((xs (i + 2)).toInt64) (32 : Int32)) ||| (((xs (i + 3)).toInt64) &&& (4294967295 : Int64))) hR.2.2.2.2.2.1 yB0 yB12) rfl rfl (Nat.le_of_ble_eq_true rfl) ⟨Nat.le_of_ble_eq_true rfl, Nat.le_of_ble_eq_true rfl, (by show k + 0 + 0 ≤ 600000; omega), (by show n + 0 + 0 ≤ 7302250; omega)⟩ (fun r w2 hq => ?_)
  obtain ⟨rfl, m0, m1, hE2⟩ := hq
  obtain ⟨hq1, hq2, hR1⟩ := q_write hR (xs (i + 1)) ((lshl ((xs (i + 2)).toInt64) (32 : Int32)) ||| (((xs (i + 3)).toInt64) &&& (4294967295 : Int64)))
  rw [← hq2] at m0
  refine vv_icmp_eq hC 1222 dL_law_258 (by decide) (fun _ => ?_) (fun z => absurd hq1 z)
  refine kk w2 _ _ ⟨_, _, _, _, _, _, _, _, _, _, _, _, _, _, _, _, _, _, _, _, _, _, _, _, _, _, _, _, _, _, _, _, _, _, _, _, _, _, _, _, _, _, _, _, _, _, _, _, _, WX.keep ⟨hE1 _ _ (by rintro (z | z) <;> exact absurd (hJ.1 _ _ (by omega) (by omega) z) (by omega)) xA0, e0, e1, hE1 _ _ (by rintro (z | z) <;> exact hvi _ (by unfold uA; omega) z) xvi, hE1 _ _ (by rintro (z | z) <;> exact absurd (hJ.1 _ _ (by omega) (by omega) z) (by omega)) xA3, hE1 _ _ (by rintro (z | z) <;> exact absurd (hJ.1 _ _ (by omega) (by omega) z) (by omega)) xA4, hE1 _ _ (by rintro (z | z) <;> exact absurd (hJ.1 _ _ (by omega) (by omega) z) (by omega)) xA5, hE1 _ _ (by rintro (z | z) <;> exact absurd (hJ.1 _ _ (by omega) (by omega) z) (by omega)) xA6, hbef, fun j2 hj2 => hE1 _ _ (by rintro (z | z) <;> exact absurd (hJ.1 _ _ (by omega) (by omega) z) (by omega)) (xbs j2 hj2), hE1 _ _ (by rintro (z | z) <;> exact absurd (hJ.1 _ _ (by omega) (by omega) z) (by omega)) xA7, hslo, fun j2 hj2 => hE1 _ _ (by rintro (z | z) <;> exact absurd (hJ.1 _ _ (by omega) (by omega) z) (by omega)) (xss j2 hj2), hE1 _ _ (by rintro (z | z) <;> exact absurd (hJ.1 _ _ (by omega) (by omega) z) (by omega)) xA8, hE1 _ _ (by rintro (z | z) <;> exact absurd (hJ.1 _ _ (by omega) (by omega) z) (by omega)) xA9, hE1 _ _ (by rintro (z | z) <;> exact absurd (hJ.1 _ _ (by omega) (by omega) z) (by omega)) xA10, hE1 _ _ (by rintro (z | z) <;> exact absurd (hJ.1 _ _ (by omega) (by omega) z) (by omega)) xA11, hE1 _ _ (by rintro (z | z) <;> exact absurd (hJ.1 _ _ (by omega) (by omega) z) (by omega)) xA12, hE1 _ _ (by rintro (z | z) <;> exact absurd (hJ.1 _ _ (by omega) (by omega) z) (by omega)) xA13, hE1 _ _ (by rintro (z | z) <;> exact absurd (hJ.1 _ _ (by omega) (by omega) z) (by omega)) xA14, hE1 _ _ (by rintro (z | z) <;> exact absurd (hJ.1 _ _ (by omega) (by omega) z) (by omega)) xA15, hE1 _ _ (by rintro (z | z) <;> exact absurd (hJ.1 _ _ (by omega) (by omega) z) (by omega)) xA16, hE1 _ _ (by rintro (z | z) <;> exact absurd (hJ.1 _ _ (by omega) (by omega) z) (by omega)) xA17, hE1 _ _ (by rintro (z | z) <;> exact absurd (hJ.1 _ _ (by omega) (by omega) z) (by omega)) xA18, hste, fun j2 hj2 => (xst j2 hj2).elim fun m hm => ⟨m, hE1 _ _ (by rintro (z | z) <;> exact absurd (hJ.1 _ _ (by omega) (by omega) z) (by omega)) hm⟩⟩ hE2 (fun j2 hj2 => by rintro (z | z) <;> exact hJ.2.2 _ _ hj2 (by unfold uB; omega) z) (by rintro (z | z) <;> exact hviB _ (by unfold uB; omega) z), ⟨m0, hE2 _ _ (by rintro (z | z) <;> exact absurd (hJ.2.1 _ _ (by omega) (by omega) z) (by omega)) yB4, hE2 _ _ (by rintro (z | z) <;> exact absurd (hJ.2.1 _ _ (by omega) (by omega) z) (by omega)) yB5, hE2 _ _ (by rintro (z | z) <;> exact absurd (hJ.2.1 _ _ (by omega) (by omega) z) (by omega)) yB6, hE2 _ _ (by rintro (z | z) <;> exact absurd (hJ.2.1 _ _ (by omega) (by omega) z) (by omega)) yB7, hE2 _ _ (by rintro (z | z) <;> exact absurd (hJ.2.1 _ _ (by omega) (by omega) z) (by omega)) yB8, hE2 _ _ (by rintro (z | z) <;> exact absurd (hJ.2.1 _ _ (by omega) (by omega) z) (by omega)) yB10, hE2 _ _ (by rintro (z | z) <;> exact absurd (hJ.2.1 _ _ (by omega) (by omega) z) (by omega)) yB11, m1, hE2 _ _ (by rintro (z | z) <;> exact absurd (hJ.2.1 _ _ (by omega) (by omega) z) (by omega)) yB18, hE2 _ _ (by rintro (z | z) <;> exact absurd (hJ.2.1 _ _ (by omega) (by omega) z) (by omega)) yB19, hE2 _ _ (by rintro (z | z) <;> exact absurd (hJ.2.1 _ _ (by omega) (by omega) z) (by omega)) yB20, hE2 _ _ (by rintro (z | z) <;> exact absurd (hJ.2.1 _ _ (by omega) (by omega) z) (by omega)) yB21, hE2 _ _ (by rintro (z | z) <;> exact absurd (hJ.2.1 _ _ (by omega) (by omega) z) (by omega)) yB22, hE2 _ _ (by rintro (z | z) <;> exact absurd (hJ.2.1 _ _ (by omega) (by omega) z) (by omega)) yB24, hE2 _ _ (by rintro (z | z) <;> exact absurd (hJ.2.1 _ _ (by omega) (by omega) z) (by omega)) yB25, hE2 _ _ (by rintro (z | z) <;> exact absurd (hJ.2.1 _ _ (by omega) (by omega) z) (by omega)) yB26, hE2 _ _ (by rintro (z | z) <;> exact absurd (hJ.2.1 _ _ (by omega) (by omega) z) (by omega)) yB27, hE2 _ _ (by rintro (z | z) <;> exact absurd (hJ.2.1 _ _ (by omega) (by omega) z) (by omega)) yB28, hE2 _ _ (by rintro (z | z) <;> exact absurd (hJ.2.1 _ _ (by omega) (by omega) z) (by omega)) yB29⟩, hR1, hvi, hviB⟩ (by omega) (by omega)
set_option maxHeartbeats 4000000 in
set_option maxRecDepth 100000 in
theorem op_visit (hC : Cx g X RL cL_law 4 ret room_1) (hX : SCR X b L xs) (hg : b < gB g) (hL : L ≤ 256) (hJ : IJ A B) (hS : LwS g A B w) (hi : i + 4 ≤ L) (hk : k + 2 ≤ 600000) (hn : n + 16 ≤ 7302250) (kk : ∀ (w2 : Wd) (k2 n2 : Nat), LwS g A B w2 → k2 ≤ k + 2 → n2 ≤ n + 16 → V g X 4 w2 k2 n2 1222 [(3, .int (nI i)), (2, .ref (B 0)), (1, .ref (A 0)), (0, .ref b)] []) : V g X 4 w k n 424 [(3, .int (nI i)), (2, .ref (B 0)), (1, .ref (A 0)), (0, .ref b)] [] := by
  obtain ⟨vi, cv, kS, seed, tl, bytes, v, now, thought, st, ct, before, slots, steps, bs, ss, sc, kinds, moons, places, values, (⟨tp, aw, us, sh⟩), fits, left, needs, th, xat, xrh, xrp, xrw, path, home, kin, a, was, kept, isKept, text, rdPath, rdHome, rdKin, rd, sight, went, tales, tests, votes, begun, between, hW, hM, hR, hvi, hviB⟩ := hS
  obtain ⟨xA0, xA1, xA2, xvi, xA3, xA4, xA5, xA6, hbef, xbs, xA7, hslo, xss, xA8, xA9, xA10, xA11, xA12, xA13, xA14, xA15, xA16, xA17, xA18, hste, xst⟩ := hW
  have hix := actIx_lt st ct
  refine vv_aload_n hC 2 dL_law_424 rfl rfl ?_
  refine vv_aload_n hC 3 dL_law_425 rfl rfl ?_
  refine vv_iload_n hC 0 dL_law_426 rfl rfl ?_
  refine vv_iconst (v := nI 1) hC dL_law_427 rfl ?_
  refine vv_iadd hC dL_law_428 ?_
  refine vv_topi (nI (i + 1)) (nI_add i 1) ?_
  refine vv_sld hC hX hg (i + 1) (by omega) (by omega) dL_law_429 ?_
  refine vv_aload_n hC 3 dL_law_430 rfl rfl ?_
  refine vv_iload_n hC 0 dL_law_431 rfl rfl ?_
  refine vv_iconst (v := nI 2) hC dL_law_432 rfl ?_
  refine vv_iadd hC dL_law_433 ?_
  refine vv_topi (nI (i + 2)) (nI_add i 2) ?_
  refine vv_sld hC hX hg (i + 2) (by omega) (by omega) dL_law_434 ?_
  refine vv_callV hC dL_law_435 md_X8_visit lk_m_L_51 lk_i_X8_visit lk_s_X8_visit xA0 rfl (As := [.int (xs (i + 1)), .int (xs (i + 2))]) (rest := []) (c_X8_visit g _ A hJ.1 vi _ kS seed v now st ct before _ (xs (i + 1)) (xs (i + 2)) hR.1.hH hR.1.hP hR.2.2.1.1 hR.2.2.1.2.1 (hbef _ (actIx_lt _ _)) xA0 xvi xA3 xA5 xA6 (xbs _ (actIx_lt _ _)) (na hJ.1 (by omega) (by omega) (by omega))) rfl rfl (Nat.le_of_ble_eq_true rfl) ⟨Nat.le_of_ble_eq_true rfl, Nat.le_of_ble_eq_true rfl, (by show k + 0 ≤ 600000; omega), (by show n + 0 ≤ 7302250; omega)⟩ (fun r w1 hq => ?_)
  obtain ⟨rfl, e0, e1, e_el, hE1⟩ := hq
  have hM1 := hM.keep hE1 (fun j2 hj2 => by rintro (z | z | z) <;> exact hJ.2.2 _ _ (by unfold uA; omega) hj2 z.symm)
  obtain ⟨yB0, yB4, yB5, yB6, yB7, yB8, yB10, yB11, yB12, yB18, yB19, yB20, yB21, yB22, yB24, yB25, yB26, yB27, yB28, yB29⟩ := hM1
  refine vv_aload_n hC 1 dL_law_438 rfl rfl ?_
  refine vv_aload_n hC 3 dL_law_439 rfl rfl ?_
  refine vv_iload_n hC 0 dL_law_440 rfl rfl ?_
  refine vv_iconst (v := nI 1) hC dL_law_441 rfl ?_
  refine vv_iadd hC dL_law_442 ?_
  refine vv_topi (nI (i + 1)) (nI_add i 1) ?_
  refine vv_sld hC hX hg (i + 1) (by omega) (by omega) dL_law_443 ?_
  refine vv_aload_n hC 3 dL_law_444 rfl rfl ?_
  refine vv_iload_n hC 0 dL_law_445 rfl rfl ?_
  refine vv_iconst (v := nI 2) hC dL_law_446 rfl ?_
  refine vv_iadd hC dL_law_447 ?_
  refine vv_topi (nI (i + 2)) (nI_add i 2) ?_
  refine vv_sld hC hX hg (i + 2) (by omega) (by omega) dL_law_448 ?_
  refine vv_callV hC dL_law_449 md_X9_visit lk_m_L_54 lk_i_X9_visit lk_s_X9_visit yB0 rfl (As := [.int (xs (i + 1)), .int (xs (i + 2))]) (rest := [.int _]) (c_X9_visit g _ B hJ.2.1 th (gVi_houses v) (gVi_people v) (gVi_pathCount v) ct tl xat xrh xrp xrw sc seed a home path was kin (xs (i + 1)) (xs (i + 2)) hR.1.hP hR.1.hH hR.1.hom hR.2.2.1.2.1 yB0 yB7 yB5 yB4 yB8 yB6) rfl rfl (Nat.le_of_ble_eq_true rfl) ⟨Nat.le_of_ble_eq_true rfl, Nat.le_of_ble_eq_true rfl, (by show k + 0 + 0 ≤ 600000; omega), (by show n + 0 + 0 ≤ 7302250; omega)⟩ (fun r w2 hq => ?_)
  obtain ⟨rfl, m0, m1, m2, hE2⟩ := hq
  obtain ⟨hq1, hq2, hR1⟩ := q_visit hR (xs (i + 1)) (xs (i + 2)) _ rfl
  rw [← hq2] at m0
  refine vv_icmp_eq hC 1222 dL_law_452 (by decide) (fun _ => ?_) (fun z => absurd hq1 z)
  refine kk w2 _ _ ⟨_, _, _, _, _, _, _, _, _, _, _, _, _, _, _, _, _, _, _, _, _, _, _, _, _, _, _, _, _, _, _, _, _, _, _, _, _, _, _, _, _, _, _, _, _, _, _, _, _, WX.keep ⟨hE1 _ _ (by rintro (z | z | z) <;> exact absurd (hJ.1 _ _ (by omega) (by omega) z) (by omega)) xA0, hE1 _ _ (by rintro (z | z | z) <;> exact absurd (hJ.1 _ _ (by omega) (by omega) z) (by omega)) xA1, hE1 _ _ (by rintro (z | z | z) <;> exact absurd (hJ.1 _ _ (by omega) (by omega) z) (by omega)) xA2, hE1 _ _ (by rintro (z | z | z) <;> exact hvi _ (by unfold uA; omega) z) xvi, e0, hE1 _ _ (by rintro (z | z | z) <;> exact absurd (hJ.1 _ _ (by omega) (by omega) z) (by omega)) xA4, e1, hE1 _ _ (by rintro (z | z | z) <;> exact absurd (hJ.1 _ _ (by omega) (by omega) z) (by omega)) xA6, hbef, (fun j hj => by
        unfold va_up
        by_cases e : j = actIx st ct
        · rw [e, if_pos rfl]; exact e_el
        · rw [if_neg e]; exact hE1 _ _ (by rintro (z | z | z) <;> exact absurd (hJ.1 _ _ (by omega) (by omega) z) (by omega)) (xbs j hj)), hE1 _ _ (by rintro (z | z | z) <;> exact absurd (hJ.1 _ _ (by omega) (by omega) z) (by omega)) xA7, hslo, fun j2 hj2 => hE1 _ _ (by rintro (z | z | z) <;> exact absurd (hJ.1 _ _ (by omega) (by omega) z) (by omega)) (xss j2 hj2), hE1 _ _ (by rintro (z | z | z) <;> exact absurd (hJ.1 _ _ (by omega) (by omega) z) (by omega)) xA8, hE1 _ _ (by rintro (z | z | z) <;> exact absurd (hJ.1 _ _ (by omega) (by omega) z) (by omega)) xA9, hE1 _ _ (by rintro (z | z | z) <;> exact absurd (hJ.1 _ _ (by omega) (by omega) z) (by omega)) xA10, hE1 _ _ (by rintro (z | z | z) <;> exact absurd (hJ.1 _ _ (by omega) (by omega) z) (by omega)) xA11, hE1 _ _ (by rintro (z | z | z) <;> exact absurd (hJ.1 _ _ (by omega) (by omega) z) (by omega)) xA12, hE1 _ _ (by rintro (z | z | z) <;> exact absurd (hJ.1 _ _ (by omega) (by omega) z) (by omega)) xA13, hE1 _ _ (by rintro (z | z | z) <;> exact absurd (hJ.1 _ _ (by omega) (by omega) z) (by omega)) xA14, hE1 _ _ (by rintro (z | z | z) <;> exact absurd (hJ.1 _ _ (by omega) (by omega) z) (by omega)) xA15, hE1 _ _ (by rintro (z | z | z) <;> exact absurd (hJ.1 _ _ (by omega) (by omega) z) (by omega)) xA16, hE1 _ _ (by rintro (z | z | z) <;> exact absurd (hJ.1 _ _ (by omega) (by omega) z) (by omega)) xA17, hE1 _ _ (by rintro (z | z | z) <;> exact absurd (hJ.1 _ _ (by omega) (by omega) z) (by omega)) xA18, hste, fun j2 hj2 => (xst j2 hj2).elim fun m hm => ⟨m, hE1 _ _ (by rintro (z | z | z) <;> exact absurd (hJ.1 _ _ (by omega) (by omega) z) (by omega)) hm⟩⟩ hE2 (fun j2 hj2 => by rintro (z | z | z) <;> exact hJ.2.2 _ _ hj2 (by unfold uB; omega) z) (by rintro (z | z | z) <;> exact hviB _ (by unfold uB; omega) z), ⟨m0, hE2 _ _ (by rintro (z | z | z) <;> exact absurd (hJ.2.1 _ _ (by omega) (by omega) z) (by omega)) yB4, hE2 _ _ (by rintro (z | z | z) <;> exact absurd (hJ.2.1 _ _ (by omega) (by omega) z) (by omega)) yB5, hE2 _ _ (by rintro (z | z | z) <;> exact absurd (hJ.2.1 _ _ (by omega) (by omega) z) (by omega)) yB6, m1, m2, hE2 _ _ (by rintro (z | z | z) <;> exact absurd (hJ.2.1 _ _ (by omega) (by omega) z) (by omega)) yB10, hE2 _ _ (by rintro (z | z | z) <;> exact absurd (hJ.2.1 _ _ (by omega) (by omega) z) (by omega)) yB11, hE2 _ _ (by rintro (z | z | z) <;> exact absurd (hJ.2.1 _ _ (by omega) (by omega) z) (by omega)) yB12, hE2 _ _ (by rintro (z | z | z) <;> exact absurd (hJ.2.1 _ _ (by omega) (by omega) z) (by omega)) yB18, hE2 _ _ (by rintro (z | z | z) <;> exact absurd (hJ.2.1 _ _ (by omega) (by omega) z) (by omega)) yB19, hE2 _ _ (by rintro (z | z | z) <;> exact absurd (hJ.2.1 _ _ (by omega) (by omega) z) (by omega)) yB20, hE2 _ _ (by rintro (z | z | z) <;> exact absurd (hJ.2.1 _ _ (by omega) (by omega) z) (by omega)) yB21, hE2 _ _ (by rintro (z | z | z) <;> exact absurd (hJ.2.1 _ _ (by omega) (by omega) z) (by omega)) yB22, hE2 _ _ (by rintro (z | z | z) <;> exact absurd (hJ.2.1 _ _ (by omega) (by omega) z) (by omega)) yB24, hE2 _ _ (by rintro (z | z | z) <;> exact absurd (hJ.2.1 _ _ (by omega) (by omega) z) (by omega)) yB25, hE2 _ _ (by rintro (z | z | z) <;> exact absurd (hJ.2.1 _ _ (by omega) (by omega) z) (by omega)) yB26, hE2 _ _ (by rintro (z | z | z) <;> exact absurd (hJ.2.1 _ _ (by omega) (by omega) z) (by omega)) yB27, hE2 _ _ (by rintro (z | z | z) <;> exact absurd (hJ.2.1 _ _ (by omega) (by omega) z) (by omega)) yB28, hE2 _ _ (by rintro (z | z | z) <;> exact absurd (hJ.2.1 _ _ (by omega) (by omega) z) (by omega)) yB29⟩, hR1, hvi, hviB⟩ (by omega) (by omega)
set_option maxHeartbeats 4000000 in
set_option maxRecDepth 100000 in
theorem op_hungry (hC : Cx g X RL cL_law 4 ret room_1) (hX : SCR X b L xs) (hg : b < gB g) (hL : L ≤ 256) (hJ : IJ A B) (hS : LwS g A B w) (hi : i + 4 ≤ L) (hk : k + 2 ≤ 600000) (hn : n + 16 ≤ 7302250) (kk : ∀ (w2 : Wd) (k2 n2 : Nat), LwS g A B w2 → k2 ≤ k + 2 → n2 ≤ n + 16 → V g X 4 w2 k2 n2 1222 [(3, .int (nI i)), (2, .ref (B 0)), (1, .ref (A 0)), (0, .ref b)] []) : V g X 4 w k n 684 [(3, .int (nI i)), (2, .ref (B 0)), (1, .ref (A 0)), (0, .ref b)] [] := by
  obtain ⟨vi, cv, kS, seed, tl, bytes, v, now, thought, st, ct, before, slots, steps, bs, ss, sc, kinds, moons, places, values, (⟨tp, aw, us, sh⟩), fits, left, needs, th, xat, xrh, xrp, xrw, path, home, kin, a, was, kept, isKept, text, rdPath, rdHome, rdKin, rd, sight, went, tales, tests, votes, begun, between, hW, hM, hR, hvi, hviB⟩ := hS
  obtain ⟨xA0, xA1, xA2, xvi, xA3, xA4, xA5, xA6, hbef, xbs, xA7, hslo, xss, xA8, xA9, xA10, xA11, xA12, xA13, xA14, xA15, xA16, xA17, xA18, hste, xst⟩ := hW
  have hix := actIx_lt st ct
  by_cases hz : xs (i + 3) = 0
  · skip
    refine vv_aload_n hC 2 dL_law_684 rfl rfl ?_
    refine vv_aload_n hC 3 dL_law_685 rfl rfl ?_
    refine vv_iload_n hC 0 dL_law_686 rfl rfl ?_
    refine vv_iconst (v := nI 1) hC dL_law_687 rfl ?_
    refine vv_iadd hC dL_law_688 ?_
    refine vv_topi (nI (i + 1)) (nI_add i 1) ?_
    refine vv_sld hC hX hg (i + 1) (by omega) (by omega) dL_law_689 ?_
    refine vv_aload_n hC 3 dL_law_690 rfl rfl ?_
    refine vv_iload_n hC 0 dL_law_691 rfl rfl ?_
    refine vv_iconst (v := nI 2) hC dL_law_692 rfl ?_
    refine vv_iadd hC dL_law_693 ?_
    refine vv_topi (nI (i + 2)) (nI_add i 2) ?_
    refine vv_sld hC hX hg (i + 2) (by omega) (by omega) dL_law_694 ?_
    refine vv_aload_n hC 3 dL_law_695 rfl rfl ?_
    refine vv_iload_n hC 0 dL_law_696 rfl rfl ?_
    refine vv_iconst (v := nI 3) hC dL_law_697 rfl ?_
    refine vv_iadd hC dL_law_698 ?_
    refine vv_topi (nI (i + 3)) (nI_add i 3) ?_
    refine vv_sld hC hX hg (i + 3) (by omega) (by omega) dL_law_699 ?_
    refine vv_if_eq hC 707 dL_law_700 (by decide) (fun _ => ?_) (fun z => absurd hz z)
    refine vv_iconst (v := 0) hC dL_law_707 rfl ?_
    refine vv_callV hC dL_law_708 md_X8_hungry lk_m_L_92 lk_i_X8_hungry lk_s_X8_hungry xA0 rfl (As := [.int (xs (i + 1)), .int (xs (i + 2)), .int (bI false)]) (rest := []) (c_X8_hungry g _ A hJ.1 vi kS seed v sc kinds moons places values (xs (i + 1)) (xs (i + 2)) false hR.2.2.2.2.1.1 xA0 xvi xA8 xA9 xA10 xA11 xA12) rfl rfl (Nat.le_of_ble_eq_true rfl) ⟨Nat.le_of_ble_eq_true rfl, Nat.le_of_ble_eq_true rfl, (by show k + 0 ≤ 600000; omega), (by show n + 0 ≤ 7302250; omega)⟩ (fun r w1 hq => ?_)
    obtain ⟨rfl, e0, e1, e2, e3, e4, hE1⟩ := hq
    have hM1 := hM.keep hE1 (fun j2 hj2 => by rintro (z | z | z | z | z) <;> exact hJ.2.2 _ _ (by unfold uA; omega) hj2 z.symm)
    obtain ⟨yB0, yB4, yB5, yB6, yB7, yB8, yB10, yB11, yB12, yB18, yB19, yB20, yB21, yB22, yB24, yB25, yB26, yB27, yB28, yB29⟩ := hM1
    refine vv_aload_n hC 1 dL_law_711 rfl rfl ?_
    refine vv_aload_n hC 3 dL_law_712 rfl rfl ?_
    refine vv_iload_n hC 0 dL_law_713 rfl rfl ?_
    refine vv_iconst (v := nI 1) hC dL_law_714 rfl ?_
    refine vv_iadd hC dL_law_715 ?_
    refine vv_topi (nI (i + 1)) (nI_add i 1) ?_
    refine vv_sld hC hX hg (i + 1) (by omega) (by omega) dL_law_716 ?_
    refine vv_aload_n hC 3 dL_law_717 rfl rfl ?_
    refine vv_iload_n hC 0 dL_law_718 rfl rfl ?_
    refine vv_iconst (v := nI 2) hC dL_law_719 rfl ?_
    refine vv_iadd hC dL_law_720 ?_
    refine vv_topi (nI (i + 2)) (nI_add i 2) ?_
    refine vv_sld hC hX hg (i + 2) (by omega) (by omega) dL_law_721 ?_
    refine vv_aload_n hC 3 dL_law_722 rfl rfl ?_
    refine vv_iload_n hC 0 dL_law_723 rfl rfl ?_
    refine vv_iconst (v := nI 3) hC dL_law_724 rfl ?_
    refine vv_iadd hC dL_law_725 ?_
    refine vv_topi (nI (i + 3)) (nI_add i 3) ?_
    refine vv_sld hC hX hg (i + 3) (by omega) (by omega) dL_law_726 ?_
    refine vv_if_eq hC 734 dL_law_727 (by decide) (fun _ => ?_) (fun z => absurd hz z)
    refine vv_iconst (v := 0) hC dL_law_734 rfl ?_
    refine vv_callV hC dL_law_735 md_X9_hungry lk_m_L_96 lk_i_X9_hungry lk_s_X9_hungry yB0 rfl (As := [.int (xs (i + 1)), .int (xs (i + 2)), .int (bI false)]) (rest := [.int _]) (c_X9_hungry g _ B hJ.2.1 th (gVi_houses v) (gVi_people v) (gVi_pathCount v) ct tl xat xrh xrp xrw sc seed sight (xs (i + 1)) (xs (i + 2)) false hR.1.hP hR.2.2.2.2.1.1 yB0 yB22) rfl rfl (Nat.le_of_ble_eq_true rfl) ⟨Nat.le_of_ble_eq_true rfl, Nat.le_of_ble_eq_true rfl, (by show k + 0 + 0 ≤ 600000; omega), (by show n + 0 + 0 ≤ 7302250; omega)⟩ (fun r w2 hq => ?_)
    obtain ⟨rfl, m0, m1, hE2⟩ := hq
    obtain ⟨hq1, hq2, hR1⟩ := q_hungry hR (xs (i + 1)) (xs (i + 2)) false
    rw [← hq2] at m0
    refine vv_icmp_eq hC 1222 dL_law_738 (by decide) (fun _ => ?_) (fun z => absurd hq1 z)
    refine kk w2 _ _ ⟨_, _, _, _, _, _, _, _, _, _, _, _, _, _, _, _, _, _, _, _, _, _, _, _, _, _, _, _, _, _, _, _, _, _, _, _, _, _, _, _, _, _, _, _, _, _, _, _, _, WX.keep ⟨hE1 _ _ (by rintro (z | z | z | z | z) <;> exact absurd (hJ.1 _ _ (by omega) (by omega) z) (by omega)) xA0, hE1 _ _ (by rintro (z | z | z | z | z) <;> exact absurd (hJ.1 _ _ (by omega) (by omega) z) (by omega)) xA1, hE1 _ _ (by rintro (z | z | z | z | z) <;> exact absurd (hJ.1 _ _ (by omega) (by omega) z) (by omega)) xA2, hE1 _ _ (by rintro (z | z | z | z | z) <;> exact hvi _ (by unfold uA; omega) z) xvi, hE1 _ _ (by rintro (z | z | z | z | z) <;> exact absurd (hJ.1 _ _ (by omega) (by omega) z) (by omega)) xA3, hE1 _ _ (by rintro (z | z | z | z | z) <;> exact absurd (hJ.1 _ _ (by omega) (by omega) z) (by omega)) xA4, hE1 _ _ (by rintro (z | z | z | z | z) <;> exact absurd (hJ.1 _ _ (by omega) (by omega) z) (by omega)) xA5, hE1 _ _ (by rintro (z | z | z | z | z) <;> exact absurd (hJ.1 _ _ (by omega) (by omega) z) (by omega)) xA6, hbef, fun j2 hj2 => hE1 _ _ (by rintro (z | z | z | z | z) <;> exact absurd (hJ.1 _ _ (by omega) (by omega) z) (by omega)) (xbs j2 hj2), hE1 _ _ (by rintro (z | z | z | z | z) <;> exact absurd (hJ.1 _ _ (by omega) (by omega) z) (by omega)) xA7, hslo, fun j2 hj2 => hE1 _ _ (by rintro (z | z | z | z | z) <;> exact absurd (hJ.1 _ _ (by omega) (by omega) z) (by omega)) (xss j2 hj2), e0, e1, e2, e3, e4, hE1 _ _ (by rintro (z | z | z | z | z) <;> exact absurd (hJ.1 _ _ (by omega) (by omega) z) (by omega)) xA13, hE1 _ _ (by rintro (z | z | z | z | z) <;> exact absurd (hJ.1 _ _ (by omega) (by omega) z) (by omega)) xA14, hE1 _ _ (by rintro (z | z | z | z | z) <;> exact absurd (hJ.1 _ _ (by omega) (by omega) z) (by omega)) xA15, hE1 _ _ (by rintro (z | z | z | z | z) <;> exact absurd (hJ.1 _ _ (by omega) (by omega) z) (by omega)) xA16, hE1 _ _ (by rintro (z | z | z | z | z) <;> exact absurd (hJ.1 _ _ (by omega) (by omega) z) (by omega)) xA17, hE1 _ _ (by rintro (z | z | z | z | z) <;> exact absurd (hJ.1 _ _ (by omega) (by omega) z) (by omega)) xA18, hste, fun j2 hj2 => (xst j2 hj2).elim fun m hm => ⟨m, hE1 _ _ (by rintro (z | z | z | z | z) <;> exact absurd (hJ.1 _ _ (by omega) (by omega) z) (by omega)) hm⟩⟩ hE2 (fun j2 hj2 => by rintro (z | z) <;> exact hJ.2.2 _ _ hj2 (by unfold uB; omega) z) (by rintro (z | z) <;> exact hviB _ (by unfold uB; omega) z), ⟨m0, hE2 _ _ (by rintro (z | z) <;> exact absurd (hJ.2.1 _ _ (by omega) (by omega) z) (by omega)) yB4, hE2 _ _ (by rintro (z | z) <;> exact absurd (hJ.2.1 _ _ (by omega) (by omega) z) (by omega)) yB5, hE2 _ _ (by rintro (z | z) <;> exact absurd (hJ.2.1 _ _ (by omega) (by omega) z) (by omega)) yB6, hE2 _ _ (by rintro (z | z) <;> exact absurd (hJ.2.1 _ _ (by omega) (by omega) z) (by omega)) yB7, hE2 _ _ (by rintro (z | z) <;> exact absurd (hJ.2.1 _ _ (by omega) (by omega) z) (by omega)) yB8, hE2 _ _ (by rintro (z | z) <;> exact absurd (hJ.2.1 _ _ (by omega) (by omega) z) (by omega)) yB10, hE2 _ _ (by rintro (z | z) <;> exact absurd (hJ.2.1 _ _ (by omega) (by omega) z) (by omega)) yB11, hE2 _ _ (by rintro (z | z) <;> exact absurd (hJ.2.1 _ _ (by omega) (by omega) z) (by omega)) yB12, hE2 _ _ (by rintro (z | z) <;> exact absurd (hJ.2.1 _ _ (by omega) (by omega) z) (by omega)) yB18, hE2 _ _ (by rintro (z | z) <;> exact absurd (hJ.2.1 _ _ (by omega) (by omega) z) (by omega)) yB19, hE2 _ _ (by rintro (z | z) <;> exact absurd (hJ.2.1 _ _ (by omega) (by omega) z) (by omega)) yB20, hE2 _ _ (by rintro (z | z) <;> exact absurd (hJ.2.1 _ _ (by omega) (by omega) z) (by omega)) yB21, m1, hE2 _ _ (by rintro (z | z) <;> exact absurd (hJ.2.1 _ _ (by omega) (by omega) z) (by omega)) yB24, hE2 _ _ (by rintro (z | z) <;> exact absurd (hJ.2.1 _ _ (by omega) (by omega) z) (by omega)) yB25, hE2 _ _ (by rintro (z | z) <;> exact absurd (hJ.2.1 _ _ (by omega) (by omega) z) (by omega)) yB26, hE2 _ _ (by rintro (z | z) <;> exact absurd (hJ.2.1 _ _ (by omega) (by omega) z) (by omega)) yB27, hE2 _ _ (by rintro (z | z) <;> exact absurd (hJ.2.1 _ _ (by omega) (by omega) z) (by omega)) yB28, hE2 _ _ (by rintro (z | z) <;> exact absurd (hJ.2.1 _ _ (by omega) (by omega) z) (by omega)) yB29⟩, hR1, hvi, hviB⟩ (by omega) (by omega)
  · skip
    refine vv_aload_n hC 2 dL_law_684 rfl rfl ?_
    refine vv_aload_n hC 3 dL_law_685 rfl rfl ?_
    refine vv_iload_n hC 0 dL_law_686 rfl rfl ?_
    refine vv_iconst (v := nI 1) hC dL_law_687 rfl ?_
    refine vv_iadd hC dL_law_688 ?_
    refine vv_topi (nI (i + 1)) (nI_add i 1) ?_
    refine vv_sld hC hX hg (i + 1) (by omega) (by omega) dL_law_689 ?_
    refine vv_aload_n hC 3 dL_law_690 rfl rfl ?_
    refine vv_iload_n hC 0 dL_law_691 rfl rfl ?_
    refine vv_iconst (v := nI 2) hC dL_law_692 rfl ?_
    refine vv_iadd hC dL_law_693 ?_
    refine vv_topi (nI (i + 2)) (nI_add i 2) ?_
    refine vv_sld hC hX hg (i + 2) (by omega) (by omega) dL_law_694 ?_
    refine vv_aload_n hC 3 dL_law_695 rfl rfl ?_
    refine vv_iload_n hC 0 dL_law_696 rfl rfl ?_
    refine vv_iconst (v := nI 3) hC dL_law_697 rfl ?_
    refine vv_iadd hC dL_law_698 ?_
    refine vv_topi (nI (i + 3)) (nI_add i 3) ?_
    refine vv_sld hC hX hg (i + 3) (by omega) (by omega) dL_law_699 ?_
    refine vv_if_eq hC 707 dL_law_700 (by decide) (fun z => absurd z hz) (fun _ => ?_)
    refine vv_iconst (v := 1) hC dL_law_703 rfl ?_
    refine vv_goto hC 708 dL_law_704 (by decide) ?_
    refine vv_callV hC dL_law_708 md_X8_hungry lk_m_L_92 lk_i_X8_hungry lk_s_X8_hungry xA0 rfl (As := [.int (xs (i + 1)), .int (xs (i + 2)), .int (bI true)]) (rest := []) (c_X8_hungry g _ A hJ.1 vi kS seed v sc kinds moons places values (xs (i + 1)) (xs (i + 2)) true hR.2.2.2.2.1.1 xA0 xvi xA8 xA9 xA10 xA11 xA12) rfl rfl (Nat.le_of_ble_eq_true rfl) ⟨Nat.le_of_ble_eq_true rfl, Nat.le_of_ble_eq_true rfl, (by show k + 0 ≤ 600000; omega), (by show n + 0 ≤ 7302250; omega)⟩ (fun r w1 hq => ?_)
    obtain ⟨rfl, e0, e1, e2, e3, e4, hE1⟩ := hq
    have hM1 := hM.keep hE1 (fun j2 hj2 => by rintro (z | z | z | z | z) <;> exact hJ.2.2 _ _ (by unfold uA; omega) hj2 z.symm)
    obtain ⟨yB0, yB4, yB5, yB6, yB7, yB8, yB10, yB11, yB12, yB18, yB19, yB20, yB21, yB22, yB24, yB25, yB26, yB27, yB28, yB29⟩ := hM1
    refine vv_aload_n hC 1 dL_law_711 rfl rfl ?_
    refine vv_aload_n hC 3 dL_law_712 rfl rfl ?_
    refine vv_iload_n hC 0 dL_law_713 rfl rfl ?_
    refine vv_iconst (v := nI 1) hC dL_law_714 rfl ?_
    refine vv_iadd hC dL_law_715 ?_
    refine vv_topi (nI (i + 1)) (nI_add i 1) ?_
    refine vv_sld hC hX hg (i + 1) (by omega) (by omega) dL_law_716 ?_
    refine vv_aload_n hC 3 dL_law_717 rfl rfl ?_
    refine vv_iload_n hC 0 dL_law_718 rfl rfl ?_
    refine vv_iconst (v := nI 2) hC dL_law_719 rfl ?_
    refine vv_iadd hC dL_law_720 ?_
    refine vv_topi (nI (i + 2)) (nI_add i 2) ?_
    refine vv_sld hC hX hg (i + 2) (by omega) (by omega) dL_law_721 ?_
    refine vv_aload_n hC 3 dL_law_722 rfl rfl ?_
    refine vv_iload_n hC 0 dL_law_723 rfl rfl ?_
    refine vv_iconst (v := nI 3) hC dL_law_724 rfl ?_
    refine vv_iadd hC dL_law_725 ?_
    refine vv_topi (nI (i + 3)) (nI_add i 3) ?_
    refine vv_sld hC hX hg (i + 3) (by omega) (by omega) dL_law_726 ?_
    refine vv_if_eq hC 734 dL_law_727 (by decide) (fun z => absurd z hz) (fun _ => ?_)
    refine vv_iconst (v := 1) hC dL_law_730 rfl ?_
    refine vv_goto hC 735 dL_law_731 (by decide) ?_
    refine vv_callV hC dL_law_735 md_X9_hungry lk_m_L_96 lk_i_X9_hungry lk_s_X9_hungry yB0 rfl (As := [.int (xs (i + 1)), .int (xs (i + 2)), .int (bI true)]) (rest := [.int _]) (c_X9_hungry g _ B hJ.2.1 th (gVi_houses v) (gVi_people v) (gVi_pathCount v) ct tl xat xrh xrp xrw sc seed sight (xs (i + 1)) (xs (i + 2)) true hR.1.hP hR.2.2.2.2.1.1 yB0 yB22) rfl rfl (Nat.le_of_ble_eq_true rfl) ⟨Nat.le_of_ble_eq_true rfl, Nat.le_of_ble_eq_true rfl, (by show k + 0 + 0 ≤ 600000; omega), (by show n + 0 + 0 ≤ 7302250; omega)⟩ (fun r w2 hq => ?_)
    obtain ⟨rfl, m0, m1, hE2⟩ := hq
    obtain ⟨hq1, hq2, hR1⟩ := q_hungry hR (xs (i + 1)) (xs (i + 2)) true
    rw [← hq2] at m0
    refine vv_icmp_eq hC 1222 dL_law_738 (by decide) (fun _ => ?_) (fun z => absurd hq1 z)
    refine kk w2 _ _ ⟨_, _, _, _, _, _, _, _, _, _, _, _, _, _, _, _, _, _, _, _, _, _, _, _, _, _, _, _, _, _, _, _, _, _, _, _, _, _, _, _, _, _, _, _, _, _, _, _, _, WX.keep ⟨hE1 _ _ (by rintro (z | z | z | z | z) <;> exact absurd (hJ.1 _ _ (by omega) (by omega) z) (by omega)) xA0, hE1 _ _ (by rintro (z | z | z | z | z) <;> exact absurd (hJ.1 _ _ (by omega) (by omega) z) (by omega)) xA1, hE1 _ _ (by rintro (z | z | z | z | z) <;> exact absurd (hJ.1 _ _ (by omega) (by omega) z) (by omega)) xA2, hE1 _ _ (by rintro (z | z | z | z | z) <;> exact hvi _ (by unfold uA; omega) z) xvi, hE1 _ _ (by rintro (z | z | z | z | z) <;> exact absurd (hJ.1 _ _ (by omega) (by omega) z) (by omega)) xA3, hE1 _ _ (by rintro (z | z | z | z | z) <;> exact absurd (hJ.1 _ _ (by omega) (by omega) z) (by omega)) xA4, hE1 _ _ (by rintro (z | z | z | z | z) <;> exact absurd (hJ.1 _ _ (by omega) (by omega) z) (by omega)) xA5, hE1 _ _ (by rintro (z | z | z | z | z) <;> exact absurd (hJ.1 _ _ (by omega) (by omega) z) (by omega)) xA6, hbef, fun j2 hj2 => hE1 _ _ (by rintro (z | z | z | z | z) <;> exact absurd (hJ.1 _ _ (by omega) (by omega) z) (by omega)) (xbs j2 hj2), hE1 _ _ (by rintro (z | z | z | z | z) <;> exact absurd (hJ.1 _ _ (by omega) (by omega) z) (by omega)) xA7, hslo, fun j2 hj2 => hE1 _ _ (by rintro (z | z | z | z | z) <;> exact absurd (hJ.1 _ _ (by omega) (by omega) z) (by omega)) (xss j2 hj2), e0, e1, e2, e3, e4, hE1 _ _ (by rintro (z | z | z | z | z) <;> exact absurd (hJ.1 _ _ (by omega) (by omega) z) (by omega)) xA13, hE1 _ _ (by rintro (z | z | z | z | z) <;> exact absurd (hJ.1 _ _ (by omega) (by omega) z) (by omega)) xA14, hE1 _ _ (by rintro (z | z | z | z | z) <;> exact absurd (hJ.1 _ _ (by omega) (by omega) z) (by omega)) xA15, hE1 _ _ (by rintro (z | z | z | z | z) <;> exact absurd (hJ.1 _ _ (by omega) (by omega) z) (by omega)) xA16, hE1 _ _ (by rintro (z | z | z | z | z) <;> exact absurd (hJ.1 _ _ (by omega) (by omega) z) (by omega)) xA17, hE1 _ _ (by rintro (z | z | z | z | z) <;> exact absurd (hJ.1 _ _ (by omega) (by omega) z) (by omega)) xA18, hste, fun j2 hj2 => (xst j2 hj2).elim fun m hm => ⟨m, hE1 _ _ (by rintro (z | z | z | z | z) <;> exact absurd (hJ.1 _ _ (by omega) (by omega) z) (by omega)) hm⟩⟩ hE2 (fun j2 hj2 => by rintro (z | z) <;> exact hJ.2.2 _ _ hj2 (by unfold uB; omega) z) (by rintro (z | z) <;> exact hviB _ (by unfold uB; omega) z), ⟨m0, hE2 _ _ (by rintro (z | z) <;> exact absurd (hJ.2.1 _ _ (by omega) (by omega) z) (by omega)) yB4, hE2 _ _ (by rintro (z | z) <;> exact absurd (hJ.2.1 _ _ (by omega) (by omega) z) (by omega)) yB5, hE2 _ _ (by rintro (z | z) <;> exact absurd (hJ.2.1 _ _ (by omega) (by omega) z) (by omega)) yB6, hE2 _ _ (by rintro (z | z) <;> exact absurd (hJ.2.1 _ _ (by omega) (by omega) z) (by omega)) yB7, hE2 _ _ (by rintro (z | z) <;> exact absurd (hJ.2.1 _ _ (by omega) (by omega) z) (by omega)) yB8, hE2 _ _ (by rintro (z | z) <;> exact absurd (hJ.2.1 _ _ (by omega) (by omega) z) (by omega)) yB10, hE2 _ _ (by rintro (z | z) <;> exact absurd (hJ.2.1 _ _ (by omega) (by omega) z) (by omega)) yB11, hE2 _ _ (by rintro (z | z) <;> exact absurd (hJ.2.1 _ _ (by omega) (by omega) z) (by omega)) yB12, hE2 _ _ (by rintro (z | z) <;> exact absurd (hJ.2.1 _ _ (by omega) (by omega) z) (by omega)) yB18, hE2 _ _ (by rintro (z | z) <;> exact absurd (hJ.2.1 _ _ (by omega) (by omega) z) (by omega)) yB19, hE2 _ _ (by rintro (z | z) <;> exact absurd (hJ.2.1 _ _ (by omega) (by omega) z) (by omega)) yB20, hE2 _ _ (by rintro (z | z) <;> exact absurd (hJ.2.1 _ _ (by omega) (by omega) z) (by omega)) yB21, m1, hE2 _ _ (by rintro (z | z) <;> exact absurd (hJ.2.1 _ _ (by omega) (by omega) z) (by omega)) yB24, hE2 _ _ (by rintro (z | z) <;> exact absurd (hJ.2.1 _ _ (by omega) (by omega) z) (by omega)) yB25, hE2 _ _ (by rintro (z | z) <;> exact absurd (hJ.2.1 _ _ (by omega) (by omega) z) (by omega)) yB26, hE2 _ _ (by rintro (z | z) <;> exact absurd (hJ.2.1 _ _ (by omega) (by omega) z) (by omega)) yB27, hE2 _ _ (by rintro (z | z) <;> exact absurd (hJ.2.1 _ _ (by omega) (by omega) z) (by omega)) yB28, hE2 _ _ (by rintro (z | z) <;> exact absurd (hJ.2.1 _ _ (by omega) (by omega) z) (by omega)) yB29⟩, hR1, hvi, hviB⟩ (by omega) (by omega)
set_option maxHeartbeats 4000000 in
set_option maxRecDepth 100000 in
theorem op_wipe (hC : Cx g X RL cL_law 4 ret room_1) (hX : SCR X b L xs) (hg : b < gB g) (hL : L ≤ 256) (hJ : IJ A B) (hS : LwS g A B w) (hi : i + 4 ≤ L) (hk : k + 2 ≤ 600000) (hn : n + 16 ≤ 7302250) (kk : ∀ (w2 : Wd) (k2 n2 : Nat), LwS g A B w2 → k2 ≤ k + 2 → n2 ≤ n + 16 → V g X 4 w2 k2 n2 1222 [(3, .int (nI i)), (2, .ref (B 0)), (1, .ref (A 0)), (0, .ref b)] []) : V g X 4 w k n 263 [(3, .int (nI i)), (2, .ref (B 0)), (1, .ref (A 0)), (0, .ref b)] [] := by
  obtain ⟨vi, cv, kS, seed, tl, bytes, v, now, thought, st, ct, before, slots, steps, bs, ss, sc, kinds, moons, places, values, (⟨tp, aw, us, sh⟩), fits, left, needs, th, xat, xrh, xrp, xrw, path, home, kin, a, was, kept, isKept, text, rdPath, rdHome, rdKin, rd, sight, went, tales, tests, votes, begun, between, hW, hM, hR, hvi, hviB⟩ := hS
  obtain ⟨xA0, xA1, xA2, xvi, xA3, xA4, xA5, xA6, hbef, xbs, xA7, hslo, xss, xA8, xA9, xA10, xA11, xA12, xA13, xA14, xA15, xA16, xA17, xA18, hste, xst⟩ := hW
  have hix := actIx_lt st ct
  refine vv_aload_n hC 2 dL_law_263 rfl rfl ?_
  refine vv_callV hC dL_law_264 md_X8_wipe lk_m_L_20 lk_i_X8_wipe lk_s_X8_wipe xA0 rfl (As := []) (rest := []) (c_X8_wipe g _ A hJ.1 vi kS seed tl xA0 xA1) rfl rfl (Nat.le_of_ble_eq_true rfl) ⟨Nat.le_of_ble_eq_true rfl, Nat.le_of_ble_eq_true rfl, (by show k + 0 ≤ 600000; omega), (by show n + 0 ≤ 7302250; omega)⟩ (fun r w1 hq => ?_)
  obtain ⟨rfl, e0, hE1⟩ := hq
  have hM1 := hM.keep hE1 (fun j2 hj2 => by rintro (z) <;> exact hJ.2.2 _ _ (by unfold uA; omega) hj2 z.symm)
  obtain ⟨yB0, yB4, yB5, yB6, yB7, yB8, yB10, yB11, yB12, yB18, yB19, yB20, yB21, yB22, yB24, yB25, yB26, yB27, yB28, yB29⟩ := hM1
  refine vv_aload_n hC 1 dL_law_267 rfl rfl ?_
  refine vv_callV hC dL_law_268 md_X9_wipe lk_m_L_24 lk_i_X9_wipe lk_s_X9_wipe yB0 rfl (As := []) (rest := [.int _]) (c_X9_wipe g _ B hJ.2.1 th (gVi_houses v) (gVi_people v) (gVi_pathCount v) ct tl xat xrh xrp xrw sc seed yB0) rfl rfl (Nat.le_of_ble_eq_true rfl) ⟨Nat.le_of_ble_eq_true rfl, Nat.le_of_ble_eq_true rfl, (by show k + 0 + 0 ≤ 600000; omega), (by show n + 0 + 0 ≤ 7302250; omega)⟩ (fun r w2 hq => ?_)
  obtain ⟨rfl, m0, hE2⟩ := hq
  have hR1 := q_wipe hR
  refine vv_icmp_eq hC 1222 dL_law_271 (by decide) (fun _ => ?_) (fun z => absurd (by rfl) z)
  refine kk w2 _ _ ⟨_, _, _, _, _, _, _, _, _, _, _, _, _, _, _, _, _, _, _, _, _, _, _, _, _, _, _, _, _, _, _, _, _, _, _, _, _, _, _, _, _, _, _, _, _, _, _, _, _, WX.keep ⟨hE1 _ _ (by rintro (z) <;> exact absurd (hJ.1 _ _ (by omega) (by omega) z) (by omega)) xA0, e0, hE1 _ _ (by rintro (z) <;> exact absurd (hJ.1 _ _ (by omega) (by omega) z) (by omega)) xA2, hE1 _ _ (by rintro (z) <;> exact hvi _ (by unfold uA; omega) z) xvi, hE1 _ _ (by rintro (z) <;> exact absurd (hJ.1 _ _ (by omega) (by omega) z) (by omega)) xA3, hE1 _ _ (by rintro (z) <;> exact absurd (hJ.1 _ _ (by omega) (by omega) z) (by omega)) xA4, hE1 _ _ (by rintro (z) <;> exact absurd (hJ.1 _ _ (by omega) (by omega) z) (by omega)) xA5, hE1 _ _ (by rintro (z) <;> exact absurd (hJ.1 _ _ (by omega) (by omega) z) (by omega)) xA6, hbef, fun j2 hj2 => hE1 _ _ (by rintro (z) <;> exact absurd (hJ.1 _ _ (by omega) (by omega) z) (by omega)) (xbs j2 hj2), hE1 _ _ (by rintro (z) <;> exact absurd (hJ.1 _ _ (by omega) (by omega) z) (by omega)) xA7, hslo, fun j2 hj2 => hE1 _ _ (by rintro (z) <;> exact absurd (hJ.1 _ _ (by omega) (by omega) z) (by omega)) (xss j2 hj2), hE1 _ _ (by rintro (z) <;> exact absurd (hJ.1 _ _ (by omega) (by omega) z) (by omega)) xA8, hE1 _ _ (by rintro (z) <;> exact absurd (hJ.1 _ _ (by omega) (by omega) z) (by omega)) xA9, hE1 _ _ (by rintro (z) <;> exact absurd (hJ.1 _ _ (by omega) (by omega) z) (by omega)) xA10, hE1 _ _ (by rintro (z) <;> exact absurd (hJ.1 _ _ (by omega) (by omega) z) (by omega)) xA11, hE1 _ _ (by rintro (z) <;> exact absurd (hJ.1 _ _ (by omega) (by omega) z) (by omega)) xA12, hE1 _ _ (by rintro (z) <;> exact absurd (hJ.1 _ _ (by omega) (by omega) z) (by omega)) xA13, hE1 _ _ (by rintro (z) <;> exact absurd (hJ.1 _ _ (by omega) (by omega) z) (by omega)) xA14, hE1 _ _ (by rintro (z) <;> exact absurd (hJ.1 _ _ (by omega) (by omega) z) (by omega)) xA15, hE1 _ _ (by rintro (z) <;> exact absurd (hJ.1 _ _ (by omega) (by omega) z) (by omega)) xA16, hE1 _ _ (by rintro (z) <;> exact absurd (hJ.1 _ _ (by omega) (by omega) z) (by omega)) xA17, hE1 _ _ (by rintro (z) <;> exact absurd (hJ.1 _ _ (by omega) (by omega) z) (by omega)) xA18, hste, fun j2 hj2 => (xst j2 hj2).elim fun m hm => ⟨m, hE1 _ _ (by rintro (z) <;> exact absurd (hJ.1 _ _ (by omega) (by omega) z) (by omega)) hm⟩⟩ hE2 (fun j2 hj2 => by rintro (z) <;> exact hJ.2.2 _ _ hj2 (by unfold uB; omega) z) (by rintro (z) <;> exact hviB _ (by unfold uB; omega) z), ⟨m0, hE2 _ _ (by rintro (z) <;> exact absurd (hJ.2.1 _ _ (by omega) (by omega) z) (by omega)) yB4, hE2 _ _ (by rintro (z) <;> exact absurd (hJ.2.1 _ _ (by omega) (by omega) z) (by omega)) yB5, hE2 _ _ (by rintro (z) <;> exact absurd (hJ.2.1 _ _ (by omega) (by omega) z) (by omega)) yB6, hE2 _ _ (by rintro (z) <;> exact absurd (hJ.2.1 _ _ (by omega) (by omega) z) (by omega)) yB7, hE2 _ _ (by rintro (z) <;> exact absurd (hJ.2.1 _ _ (by omega) (by omega) z) (by omega)) yB8, hE2 _ _ (by rintro (z) <;> exact absurd (hJ.2.1 _ _ (by omega) (by omega) z) (by omega)) yB10, hE2 _ _ (by rintro (z) <;> exact absurd (hJ.2.1 _ _ (by omega) (by omega) z) (by omega)) yB11, hE2 _ _ (by rintro (z) <;> exact absurd (hJ.2.1 _ _ (by omega) (by omega) z) (by omega)) yB12, hE2 _ _ (by rintro (z) <;> exact absurd (hJ.2.1 _ _ (by omega) (by omega) z) (by omega)) yB18, hE2 _ _ (by rintro (z) <;> exact absurd (hJ.2.1 _ _ (by omega) (by omega) z) (by omega)) yB19, hE2 _ _ (by rintro (z) <;> exact absurd (hJ.2.1 _ _ (by omega) (by omega) z) (by omega)) yB20, hE2 _ _ (by rintro (z) <;> exact absurd (hJ.2.1 _ _ (by omega) (by omega) z) (by omega)) yB21, hE2 _ _ (by rintro (z) <;> exact absurd (hJ.2.1 _ _ (by omega) (by omega) z) (by omega)) yB22, hE2 _ _ (by rintro (z) <;> exact absurd (hJ.2.1 _ _ (by omega) (by omega) z) (by omega)) yB24, hE2 _ _ (by rintro (z) <;> exact absurd (hJ.2.1 _ _ (by omega) (by omega) z) (by omega)) yB25, hE2 _ _ (by rintro (z) <;> exact absurd (hJ.2.1 _ _ (by omega) (by omega) z) (by omega)) yB26, hE2 _ _ (by rintro (z) <;> exact absurd (hJ.2.1 _ _ (by omega) (by omega) z) (by omega)) yB27, hE2 _ _ (by rintro (z) <;> exact absurd (hJ.2.1 _ _ (by omega) (by omega) z) (by omega)) yB28, hE2 _ _ (by rintro (z) <;> exact absurd (hJ.2.1 _ _ (by omega) (by omega) z) (by omega)) yB29⟩, hR1, hvi, hviB⟩ (by omega) (by omega)
set_option maxHeartbeats 4000000 in
set_option maxRecDepth 100000 in
theorem op_fault (hC : Cx g X RL cL_law 4 ret room_1) (hX : SCR X b L xs) (hg : b < gB g) (hL : L ≤ 256) (hJ : IJ A B) (hS : LwS g A B w) (hi : i + 4 ≤ L) (hk : k + 2 ≤ 600000) (hn : n + 16 ≤ 7302250) (kk : ∀ (w2 : Wd) (k2 n2 : Nat), LwS g A B w2 → k2 ≤ k + 2 → n2 ≤ n + 16 → V g X 4 w2 k2 n2 1222 [(3, .int (nI i)), (2, .ref (B 0)), (1, .ref (A 0)), (0, .ref b)] []) : V g X 4 w k n 276 [(3, .int (nI i)), (2, .ref (B 0)), (1, .ref (A 0)), (0, .ref b)] [] := by
  obtain ⟨vi, cv, kS, seed, tl, bytes, v, now, thought, st, ct, before, slots, steps, bs, ss, sc, kinds, moons, places, values, (⟨tp, aw, us, sh⟩), fits, left, needs, th, xat, xrh, xrp, xrw, path, home, kin, a, was, kept, isKept, text, rdPath, rdHome, rdKin, rd, sight, went, tales, tests, votes, begun, between, hW, hM, hR, hvi, hviB⟩ := hS
  obtain ⟨xA0, xA1, xA2, xvi, xA3, xA4, xA5, xA6, hbef, xbs, xA7, hslo, xss, xA8, xA9, xA10, xA11, xA12, xA13, xA14, xA15, xA16, xA17, xA18, hste, xst⟩ := hW
  have hix := actIx_lt st ct
  refine vv_aload_n hC 2 dL_law_276 rfl rfl ?_
  refine vv_callV hC dL_law_277 md_X8_fault lk_m_L_25 lk_i_X8_fault lk_s_X8_fault xA0 rfl (As := []) (rest := []) (c_X8_fault g _ A vi kS seed tl bytes xA0 xA1 xA2) rfl rfl (Nat.le_of_ble_eq_true rfl) ⟨Nat.le_of_ble_eq_true rfl, Nat.le_of_ble_eq_true rfl, (by show k + 2 ≤ 600000; omega), (by show n + 16 ≤ 7302250; omega)⟩ (fun r w1 hq => ?_)
  obtain ⟨rfl, hE1⟩ := hq
  have hM1 := hM.keep hE1 (fun _ _ z => z)
  obtain ⟨yB0, yB4, yB5, yB6, yB7, yB8, yB10, yB11, yB12, yB18, yB19, yB20, yB21, yB22, yB24, yB25, yB26, yB27, yB28, yB29⟩ := hM1
  refine vv_aload_n hC 1 dL_law_280 rfl rfl ?_
  refine vv_callV hC dL_law_281 md_X9_fault lk_m_L_28 lk_i_X9_fault lk_s_X9_fault yB0 rfl (As := []) (rest := [.int _]) (c_X9_fault g _ B hJ.2.1 th (gVi_houses v) (gVi_people v) (gVi_pathCount v) ct tl xat xrh xrp xrw sc seed rd rdPath rdHome rdKin text hR.2.2.2.2.2.1 yB0 yB21 yB18 yB19 yB20 yB12) rfl rfl (Nat.le_of_ble_eq_true rfl) ⟨Nat.le_of_ble_eq_true rfl, Nat.le_of_ble_eq_true rfl, (by show k + 2 + 0 ≤ 600000; omega), (by show n + 16 + 0 ≤ 7302250; omega)⟩ (fun r w2 hq => ?_)
  obtain ⟨rfl, m0, m1, m2, m3, m4, hE2⟩ := hq
  have hq1 := q_fault hR rd rdPath rdHome rdKin
  have hR1 := hR
  refine vv_icmp_eq hC 1222 dL_law_284 (by decide) (fun _ => ?_) (fun z => absurd hq1 z)
  refine kk w2 _ _ ⟨_, _, _, _, _, _, _, _, _, _, _, _, _, _, _, _, _, _, _, _, _, _, _, _, _, _, _, _, _, _, _, _, _, _, _, _, _, _, _, _, _, _, _, _, _, _, _, _, _, WX.keep ⟨hE1 _ _ (fun z => z) xA0, hE1 _ _ (fun z => z) xA1, hE1 _ _ (fun z => z) xA2, hE1 _ _ (fun z => z) xvi, hE1 _ _ (fun z => z) xA3, hE1 _ _ (fun z => z) xA4, hE1 _ _ (fun z => z) xA5, hE1 _ _ (fun z => z) xA6, hbef, fun j2 hj2 => hE1 _ _ (fun z => z) (xbs j2 hj2), hE1 _ _ (fun z => z) xA7, hslo, fun j2 hj2 => hE1 _ _ (fun z => z) (xss j2 hj2), hE1 _ _ (fun z => z) xA8, hE1 _ _ (fun z => z) xA9, hE1 _ _ (fun z => z) xA10, hE1 _ _ (fun z => z) xA11, hE1 _ _ (fun z => z) xA12, hE1 _ _ (fun z => z) xA13, hE1 _ _ (fun z => z) xA14, hE1 _ _ (fun z => z) xA15, hE1 _ _ (fun z => z) xA16, hE1 _ _ (fun z => z) xA17, hE1 _ _ (fun z => z) xA18, hste, fun j2 hj2 => (xst j2 hj2).elim fun m hm => ⟨m, hE1 _ _ (fun z => z) hm⟩⟩ hE2 (fun j2 hj2 => by rintro (z | z | z | z | z) <;> exact hJ.2.2 _ _ hj2 (by unfold uB; omega) z) (by rintro (z | z | z | z | z) <;> exact hviB _ (by unfold uB; omega) z), ⟨m0, hE2 _ _ (by rintro (z | z | z | z | z) <;> exact absurd (hJ.2.1 _ _ (by omega) (by omega) z) (by omega)) yB4, hE2 _ _ (by rintro (z | z | z | z | z) <;> exact absurd (hJ.2.1 _ _ (by omega) (by omega) z) (by omega)) yB5, hE2 _ _ (by rintro (z | z | z | z | z) <;> exact absurd (hJ.2.1 _ _ (by omega) (by omega) z) (by omega)) yB6, hE2 _ _ (by rintro (z | z | z | z | z) <;> exact absurd (hJ.2.1 _ _ (by omega) (by omega) z) (by omega)) yB7, hE2 _ _ (by rintro (z | z | z | z | z) <;> exact absurd (hJ.2.1 _ _ (by omega) (by omega) z) (by omega)) yB8, hE2 _ _ (by rintro (z | z | z | z | z) <;> exact absurd (hJ.2.1 _ _ (by omega) (by omega) z) (by omega)) yB10, hE2 _ _ (by rintro (z | z | z | z | z) <;> exact absurd (hJ.2.1 _ _ (by omega) (by omega) z) (by omega)) yB11, hE2 _ _ (by rintro (z | z | z | z | z) <;> exact absurd (hJ.2.1 _ _ (by omega) (by omega) z) (by omega)) yB12, m2, m3, m4, m1, hE2 _ _ (by rintro (z | z | z | z | z) <;> exact absurd (hJ.2.1 _ _ (by omega) (by omega) z) (by omega)) yB22, hE2 _ _ (by rintro (z | z | z | z | z) <;> exact absurd (hJ.2.1 _ _ (by omega) (by omega) z) (by omega)) yB24, hE2 _ _ (by rintro (z | z | z | z | z) <;> exact absurd (hJ.2.1 _ _ (by omega) (by omega) z) (by omega)) yB25, hE2 _ _ (by rintro (z | z | z | z | z) <;> exact absurd (hJ.2.1 _ _ (by omega) (by omega) z) (by omega)) yB26, hE2 _ _ (by rintro (z | z | z | z | z) <;> exact absurd (hJ.2.1 _ _ (by omega) (by omega) z) (by omega)) yB27, hE2 _ _ (by rintro (z | z | z | z | z) <;> exact absurd (hJ.2.1 _ _ (by omega) (by omega) z) (by omega)) yB28, hE2 _ _ (by rintro (z | z | z | z | z) <;> exact absurd (hJ.2.1 _ _ (by omega) (by omega) z) (by omega)) yB29⟩, hR1, hvi, hviB⟩ (by omega) (by omega)
end OPS
