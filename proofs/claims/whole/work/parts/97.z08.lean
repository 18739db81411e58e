section OPS
variable {g : GT} {X : CtxT} {A B : Nat → Nat} {w : Wd} {k n b L i : Nat} {xs : Nat → Int32}
set_option maxHeartbeats 4000000 in
set_option maxRecDepth 100000 in
theorem op_danger (hC : Cx g X RL cL_law 4 ret room_1) (hX : SCR X b L xs) (hg : b < gB g) (hL : L ≤ 256) (hJ : IJ A B) (hS : LwS g A B w) (hi : i + 4 ≤ L) (hk : k + 2 ≤ 600000) (hn : n + 16 ≤ 7302250) (kk : ∀ (w2 : Wd) (k2 n2 : Nat), LwS g A B w2 → k2 ≤ k + 2 → n2 ≤ n + 16 → V g X 4 w2 k2 n2 1222 [(3, .int (nI i)), (2, .ref (B 0)), (1, .ref (A 0)), (0, .ref b)] []) : V g X 4 w k n 1016 [(3, .int (nI i)), (2, .ref (B 0)), (1, .ref (A 0)), (0, .ref b)] [] := by
  obtain ⟨vi, cv, kS, seed, tl, bytes, v, now, thought, st, ct, before, slots, steps, bs, ss, sc, kinds, moons, places, values, (⟨tp, aw, us, sh⟩), fits, left, needs, th, xat, xrh, xrp, xrw, path, home, kin, a, was, kept, isKept, text, rdPath, rdHome, rdKin, rd, sight, went, tales, tests, votes, begun, between, hW, hM, hR, hvi, hviB⟩ := hS
  obtain ⟨xA0, xA1, xA2, xvi, xA3, xA4, xA5, xA6, hbef, xbs, xA7, hslo, xss, xA8, xA9, xA10, xA11, xA12, xA13, xA14, xA15, xA16, xA17, xA18, hste, xst⟩ := hW
  have hix := actIx_lt st ct
  by_cases hz : xs (i + 3) = 0
  · skip
    refine vv_aload_n hC 2 dL_law_1016 rfl rfl ?_
    refine vv_aload_n hC 3 dL_law_1017 rfl rfl ?_
    refine vv_iload_n hC 0 dL_law_1018 rfl rfl ?_
    refine vv_iconst (v := nI 1) hC dL_law_1019 rfl ?_
    refine vv_iadd hC dL_law_1020 ?_
    refine vv_topi (nI (i + 1)) (nI_add i 1) ?_
    refine vv_sld hC hX hg (i + 1) (by omega) (by omega) dL_law_1021 ?_
    refine vv_aload_n hC 3 dL_law_1022 rfl rfl ?_
    refine vv_iload_n hC 0 dL_law_1023 rfl rfl ?_
    refine vv_iconst (v := nI 2) hC dL_law_1024 rfl ?_
    refine vv_iadd hC dL_law_1025 ?_
    refine vv_topi (nI (i + 2)) (nI_add i 2) ?_
    refine vv_sld hC hX hg (i + 2) (by omega) (by omega) dL_law_1026 ?_
    refine vv_aload_n hC 3 dL_law_1027 rfl rfl ?_
    refine vv_iload_n hC 0 dL_law_1028 rfl rfl ?_
    refine vv_iconst (v := nI 3) hC dL_law_1029 rfl ?_
    refine vv_iadd hC dL_law_1030 ?_
    refine vv_topi (nI (i + 3)) (nI_add i 3) ?_
    refine vv_sld hC hX hg (i + 3) (by omega) (by omega) dL_law_1031 ?_
    refine vv_if_eq hC 1039 dL_law_1032 (by decide) (fun _ => ?_) (fun z => absurd hz z)
    refine vv_iconst (v := 0) hC dL_law_1039 rfl ?_
    refine vv_callV hC dL_law_1040 md_X8_danger lk_m_L_152 lk_i_X8_danger lk_s_X8_danger xA0 rfl (As := [.int (xs (i + 1)), .int (xs (i + 2)), .int (bI false)]) (rest := []) (c_X8_danger g _ A hJ.1 cv vi kS seed v now steps (xs (i + 1)) (xs (i + 2)) false hR.1.hH hR.1.hP hste xA0 xA17 xA18 xvi xA3 xst) rfl rfl (Nat.le_of_ble_eq_true rfl) ⟨Nat.le_of_ble_eq_true rfl, Nat.le_of_ble_eq_true rfl, (by show k + 0 ≤ 600000; omega), (by show n + 0 ≤ 7302250; omega)⟩ (fun r w1 hq => ?_)
    obtain ⟨rfl, ⟨cv2, e0⟩, e1, hE1⟩ := hq
    have hM1 := hM.keep hE1 (fun j2 hj2 => by rintro (z | ⟨j, hj, z⟩) <;> exact hJ.2.2 _ _ (by unfold uA; omega) hj2 z.symm)
    obtain ⟨yB0, yB4, yB5, yB6, yB7, yB8, yB10, yB11, yB12, yB18, yB19, yB20, yB21, yB22, yB24, yB25, yB26, yB27, yB28, yB29⟩ := hM1
    refine vv_aload_n hC 1 dL_law_1043 rfl rfl ?_
    refine vv_aload_n hC 3 dL_law_1044 rfl rfl ?_
    refine vv_iload_n hC 0 dL_law_1045 rfl rfl ?_
    refine vv_iconst (v := nI 1) hC dL_law_1046 rfl ?_
    refine vv_iadd hC dL_law_1047 ?_
    refine vv_topi (nI (i + 1)) (nI_add i 1) ?_
    refine vv_sld hC hX hg (i + 1) (by omega) (by omega) dL_law_1048 ?_
    refine vv_aload_n hC 3 dL_law_1049 rfl rfl ?_
    refine vv_iload_n hC 0 dL_law_1050 rfl rfl ?_
    refine vv_iconst (v := nI 2) hC dL_law_1051 rfl ?_
    refine vv_iadd hC dL_law_1052 ?_
    refine vv_topi (nI (i + 2)) (nI_add i 2) ?_
    refine vv_sld hC hX hg (i + 2) (by omega) (by omega) dL_law_1053 ?_
    refine vv_aload_n hC 3 dL_law_1054 rfl rfl ?_
    refine vv_iload_n hC 0 dL_law_1055 rfl rfl ?_
    refine vv_iconst (v := nI 3) hC dL_law_1056 rfl ?_
    refine vv_iadd hC dL_law_1057 ?_
    refine vv_topi (nI (i + 3)) (nI_add i 3) ?_
    refine vv_sld hC hX hg (i + 3) (by omega) (by omega) dL_law_1058 ?_
    refine vv_if_eq hC 1066 dL_law_1059 (by decide) (fun _ => ?_) (fun z => absurd hz z)
    refine vv_iconst (v := 0) hC dL_law_1066 rfl ?_
    refine vv_callV hC dL_law_1067 md_X9_danger lk_m_L_156 lk_i_X9_danger lk_s_X9_danger yB0 rfl (As := [.int (xs (i + 1)), .int (xs (i + 2)), .int (bI false)]) (rest := [.long _]) (c_X9_danger g _ B hJ.2.1 th (gVi_houses v) (gVi_people v) (gVi_pathCount v) ct tl xat xrh xrp xrw sc seed a begun home path kin between (xs (i + 1)) (xs (i + 2)) false hR.1.hP hR.1.hH hR.1.hom (fun x y => ((q_danger hR begun between (xs (i + 1)) (xs (i + 2)) false).2.2 x y).1) (fun x y => ((q_danger hR begun between (xs (i + 1)) (xs (i + 2)) false).2.2 x y).2) yB0 yB7 yB28 yB5 yB4 yB6 yB29) rfl rfl (Nat.le_of_ble_eq_true rfl) ⟨Nat.le_of_ble_eq_true rfl, Nat.le_of_ble_eq_true rfl, (by show k + 0 + 0 ≤ 600000; omega), (by show n + 0 + 0 ≤ 7302250; omega)⟩ (fun r w2 hq => ?_)
    obtain ⟨rfl, m0, m1, m2, m3, hE2⟩ := hq
    obtain ⟨hq1, hR1, _⟩ := q_danger hR begun between (xs (i + 1)) (xs (i + 2)) false
    refine vv_lcmp hC dL_law_1070 ?_
    refine vv_if_eq hC 1222 dL_law_1071 (by decide) (fun _ => ?_) (fun z => absurd (by rw [hq1]; exact lgc _) z)
    refine kk w2 _ _ ⟨_, _, _, _, _, _, _, _, _, _, _, _, _, _, _, _, _, _, _, _, _, _, _, _, _, _, _, _, _, _, _, _, _, _, _, _, _, _, _, _, _, _, _, _, _, _, _, _, _, WX.keep ⟨hE1 _ _ (by rintro (z | ⟨j, hj, z⟩) <;> exact absurd (hJ.1 _ _ (by omega) (by omega) z) (by omega)) xA0, hE1 _ _ (by rintro (z | ⟨j, hj, z⟩) <;> exact absurd (hJ.1 _ _ (by omega) (by omega) z) (by omega)) xA1, hE1 _ _ (by rintro (z | ⟨j, hj, z⟩) <;> exact absurd (hJ.1 _ _ (by omega) (by omega) z) (by omega)) xA2, hE1 _ _ (by rintro (z | ⟨j, hj, z⟩) <;> exact hvi _ (by unfold uA; omega) z) xvi, hE1 _ _ (by rintro (z | ⟨j, hj, z⟩) <;> exact absurd (hJ.1 _ _ (by omega) (by omega) z) (by omega)) xA3, hE1 _ _ (by rintro (z | ⟨j, hj, z⟩) <;> exact absurd (hJ.1 _ _ (by omega) (by omega) z) (by omega)) xA4, hE1 _ _ (by rintro (z | ⟨j, hj, z⟩) <;> exact absurd (hJ.1 _ _ (by omega) (by omega) z) (by omega)) xA5, hE1 _ _ (by rintro (z | ⟨j, hj, z⟩) <;> exact absurd (hJ.1 _ _ (by omega) (by omega) z) (by omega)) xA6, hbef, fun j2 hj2 => hE1 _ _ (by rintro (z | ⟨j, hj, z⟩) <;> exact absurd (hJ.1 _ _ (by omega) (by omega) z) (by omega)) (xbs j2 hj2), hE1 _ _ (by rintro (z | ⟨j, hj, z⟩) <;> exact absurd (hJ.1 _ _ (by omega) (by omega) z) (by omega)) xA7, hslo, fun j2 hj2 => hE1 _ _ (by rintro (z | ⟨j, hj, z⟩) <;> exact absurd (hJ.1 _ _ (by omega) (by omega) z) (by omega)) (xss j2 hj2), hE1 _ _ (by rintro (z | ⟨j, hj, z⟩) <;> exact absurd (hJ.1 _ _ (by omega) (by omega) z) (by omega)) xA8, hE1 _ _ (by rintro (z | ⟨j, hj, z⟩) <;> exact absurd (hJ.1 _ _ (by omega) (by omega) z) (by omega)) xA9, hE1 _ _ (by rintro (z | ⟨j, hj, z⟩) <;> exact absurd (hJ.1 _ _ (by omega) (by omega) z) (by omega)) xA10, hE1 _ _ (by rintro (z | ⟨j, hj, z⟩) <;> exact absurd (hJ.1 _ _ (by omega) (by omega) z) (by omega)) xA11, hE1 _ _ (by rintro (z | ⟨j, hj, z⟩) <;> exact absurd (hJ.1 _ _ (by omega) (by omega) z) (by omega)) xA12, hE1 _ _ (by rintro (z | ⟨j, hj, z⟩) <;> exact absurd (hJ.1 _ _ (by omega) (by omega) z) (by omega)) xA13, hE1 _ _ (by rintro (z | ⟨j, hj, z⟩) <;> exact absurd (hJ.1 _ _ (by omega) (by omega) z) (by omega)) xA14, hE1 _ _ (by rintro (z | ⟨j, hj, z⟩) <;> exact absurd (hJ.1 _ _ (by omega) (by omega) z) (by omega)) xA15, hE1 _ _ (by rintro (z | ⟨j, hj, z⟩) <;> exact absurd (hJ.1 _ _ (by omega) (by omega) z) (by omega)) xA16, e0, hE1 _ _ (by rintro (z | ⟨j, hj, z⟩) <;> exact absurd (hJ.1 _ _ (by omega) (by omega) z) (by omega)) xA18, hste, e1⟩ hE2 (fun j2 hj2 => by rintro (z | z | z | z) <;> exact hJ.2.2 _ _ hj2 (by unfold uB; omega) z) (by rintro (z | z | z | z) <;> exact hviB _ (by unfold uB; omega) z), ⟨m0, hE2 _ _ (by rintro (z | z | z | z) <;> exact absurd (hJ.2.1 _ _ (by omega) (by omega) z) (by omega)) yB4, hE2 _ _ (by rintro (z | z | z | z) <;> exact absurd (hJ.2.1 _ _ (by omega) (by omega) z) (by omega)) yB5, hE2 _ _ (by rintro (z | z | z | z) <;> exact absurd (hJ.2.1 _ _ (by omega) (by omega) z) (by omega)) yB6, m1, hE2 _ _ (by rintro (z | z | z | z) <;> exact absurd (hJ.2.1 _ _ (by omega) (by omega) z) (by omega)) yB8, hE2 _ _ (by rintro (z | z | z | z) <;> exact absurd (hJ.2.1 _ _ (by omega) (by omega) z) (by omega)) yB10, hE2 _ _ (by rintro (z | z | z | z) <;> exact absurd (hJ.2.1 _ _ (by omega) (by omega) z) (by omega)) yB11, hE2 _ _ (by rintro (z | z | z | z) <;> exact absurd (hJ.2.1 _ _ (by omega) (by omega) z) (by omega)) yB12, hE2 _ _ (by rintro (z | z | z | z) <;> exact absurd (hJ.2.1 _ _ (by omega) (by omega) z) (by omega)) yB18, hE2 _ _ (by rintro (z | z | z | z) <;> exact absurd (hJ.2.1 _ _ (by omega) (by omega) z) (by omega)) yB19, hE2 _ _ (by rintro (z | z | z | z) <;> exact absurd (hJ.2.1 _ _ (by omega) (by omega) z) (by omega)) yB20, hE2 _ _ (by rintro (z | z | z | z) <;> exact absurd (hJ.2.1 _ _ (by omega) (by omega) z) (by omega)) yB21, hE2 _ _ (by rintro (z | z | z | z) <;> exact absurd (hJ.2.1 _ _ (by omega) (by omega) z) (by omega)) yB22, hE2 _ _ (by rintro (z | z | z | z) <;> exact absurd (hJ.2.1 _ _ (by omega) (by omega) z) (by omega)) yB24, hE2 _ _ (by rintro (z | z | z | z) <;> exact absurd (hJ.2.1 _ _ (by omega) (by omega) z) (by omega)) yB25, hE2 _ _ (by rintro (z | z | z | z) <;> exact absurd (hJ.2.1 _ _ (by omega) (by omega) z) (by omega)) yB26, hE2 _ _ (by rintro (z | z | z | z) <;> exact absurd (hJ.2.1 _ _ (by omega) (by omega) z) (by omega)) yB27, m2, m3⟩, hR1, hvi, hviB⟩ (by omega) (by omega)
  · skip
    refine vv_aload_n hC 2 dL_law_1016 rfl rfl ?_
    refine vv_aload_n hC 3 dL_law_1017 rfl rfl ?_
    refine vv_iload_n hC 0 dL_law_1018 rfl rfl ?_
    refine vv_iconst (v := nI 1) hC dL_law_1019 rfl ?_
    refine vv_iadd hC dL_law_1020 ?_
    refine vv_topi (nI (i + 1)) (nI_add i 1) ?_
    refine vv_sld hC hX hg (i + 1) (by omega) (by omega) dL_law_1021 ?_
    refine vv_aload_n hC 3 dL_law_1022 rfl rfl ?_
    refine vv_iload_n hC 0 dL_law_1023 rfl rfl ?_
    refine vv_iconst (v := nI 2) hC dL_law_1024 rfl ?_
    refine vv_iadd hC dL_law_1025 ?_
    refine vv_topi (nI (i + 2)) (nI_add i 2) ?_
    refine vv_sld hC hX hg (i + 2) (by omega) (by omega) dL_law_1026 ?_
    refine vv_aload_n hC 3 dL_law_1027 rfl rfl ?_
    refine vv_iload_n hC 0 dL_law_1028 rfl rfl ?_
    refine vv_iconst (v := nI 3) hC dL_law_1029 rfl ?_
    refine vv_iadd hC dL_law_1030 ?_
    refine vv_topi (nI (i + 3)) (nI_add i 3) ?_
    refine vv_sld hC hX hg (i + 3) (by omega) (by omega) dL_law_1031 ?_
    refine vv_if_eq hC 1039 dL_law_1032 (by decide) (fun z => absurd z hz) (fun _ => ?_)
    refine vv_iconst (v := 1) hC dL_law_1035 rfl ?_
    refine vv_goto hC 1040 dL_law_1036 (by decide) ?_
    refine vv_callV hC dL_law_1040 md_X8_danger lk_m_L_152 lk_i_X8_danger lk_s_X8_danger xA0 rfl (As := [.int (xs (i + 1)), .int (xs (i + 2)), .int (bI true)]) (rest := []) (c_X8_danger g _ A hJ.1 cv vi kS seed v now steps (xs (i + 1)) (xs (i + 2)) true hR.1.hH hR.1.hP hste xA0 xA17 xA18 xvi xA3 xst) rfl rfl (Nat.le_of_ble_eq_true rfl) ⟨Nat.le_of_ble_eq_true rfl, Nat.le_of_ble_eq_true rfl, (by show k + 0 ≤ 600000; omega), (by show n + 0 ≤ 7302250; omega)⟩ (fun r w1 hq => ?_)
    obtain ⟨rfl, ⟨cv2, e0⟩, e1, hE1⟩ := hq
    have hM1 := hM.keep hE1 (fun j2 hj2 => by rintro (z | ⟨j, hj, z⟩) <;> exact hJ.2.2 _ _ (by unfold uA; omega) hj2 z.symm)
    obtain ⟨yB0, yB4, yB5, yB6, yB7, yB8, yB10, yB11, yB12, yB18, yB19, yB20, yB21, yB22, yB24, yB25, yB26, yB27, yB28, yB29⟩ := hM1
    refine vv_aload_n hC 1 dL_law_1043 rfl rfl ?_
    refine vv_aload_n hC 3 dL_law_1044 rfl rfl ?_
    refine vv_iload_n hC 0 dL_law_1045 rfl rfl ?_
    refine vv_iconst (v := nI 1) hC dL_law_1046 rfl ?_
    refine vv_iadd hC dL_law_1047 ?_
    refine vv_topi (nI (i + 1)) (nI_add i 1) ?_
    refine vv_sld hC hX hg (i + 1) (by omega) (by omega) dL_law_1048 ?_
    refine vv_aload_n hC 3 dL_law_1049 rfl rfl ?_
    refine vv_iload_n hC 0 dL_law_1050 rfl rfl ?_
    refine vv_iconst (v := nI 2) hC dL_law_1051 rfl ?_
    refine vv_iadd hC dL_law_1052 ?_
    refine vv_topi (nI (i + 2)) (nI_add i 2) ?_
    refine vv_sld hC hX hg (i + 2) (by omega) (by omega) dL_law_1053 ?_
    refine vv_aload_n hC 3 dL_law_1054 rfl rfl ?_
    refine vv_iload_n hC 0 dL_law_1055 rfl rfl ?_
    refine vv_iconst (v := nI 3) hC dL_law_1056 rfl ?_
    refine vv_iadd hC dL_law_1057 ?_
    refine vv_topi (nI (i + 3)) (nI_add i 3) ?_
    refine vv_sld hC hX hg (i + 3) (by omega) (by omega) dL_law_1058 ?_
    refine vv_if_eq hC 1066 dL_law_1059 (by decide) (fun z => absurd z hz) (fun _ => ?_)
    refine vv_iconst (v := 1) hC dL_law_1062 rfl ?_
    refine vv_goto hC 1067 dL_law_1063 (by decide) ?_
    refine vv_callV hC dL_law_1067 md_X9_danger lk_m_L_156 lk_i_X9_danger lk_s_X9_danger yB0 rfl (As := [.int (xs (i + 1)), .int (xs (i + 2)), .int (bI true)]) (rest := [.long _]) (c_X9_danger g _ B hJ.2.1 th (gVi_houses v) (gVi_people v) (gVi_pathCount v) ct tl xat xrh xrp xrw sc seed a begun home path kin between (xs (i + 1)) (xs (i + 2)) true hR.1.hP hR.1.hH hR.1.hom (fun x y => ((q_danger hR begun between (xs (i + 1)) (xs (i + 2)) true).2.2 x y).1) (fun x y => ((q_danger hR begun between (xs (i + 1)) (xs (i + 2)) true).2.2 x y).2) yB0 yB7 yB28 yB5 yB4 yB6 yB29) rfl rfl (Nat.le_of_ble_eq_true rfl) ⟨Nat.le_of_ble_eq_true rfl, Nat.le_of_ble_eq_true rfl, (by show k + 0 + 0 ≤ 600000; omega), (by show n + 0 + 0 ≤ 7302250; omega)⟩ (fun r w2 hq => ?_)
    obtain ⟨rfl, m0, m1, m2, m3, hE2⟩ := hq
    obtain ⟨hq1, hR1, _⟩ := q_danger hR begun between (xs (i + 1)) (xs (i + 2)) true
    refine vv_lcmp hC dL_law_1070 ?_
    refine vv_if_eq hC 1222 dL_law_1071 (by decide) (fun _ => ?_) (fun z => absurd (by rw [hq1]; exact lgc _) z)
    refine kk w2 _ _ ⟨_, _, _, _, _, _, _, _, _, _, _, _, _, _, _, _, _, _, _, _, _, _, _, _, _, _, _, _, _, _, _, _, _, _, _, _, _, _, _, _, _, _, _, _, _, _, _, _, _, WX.keep ⟨hE1 _ _ (by rintro (z | ⟨j, hj, z⟩) <;> exact absurd (hJ.1 _ _ (by omega) (by omega) z) (by omega)) xA0, hE1 _ _ (by rintro (z | ⟨j, hj, z⟩) <;> exact absurd (hJ.1 _ _ (by omega) (by omega) z) (by omega)) xA1, hE1 _ _ (by rintro (z | ⟨j, hj, z⟩) <;> exact absurd (hJ.1 _ _ (by omega) (by omega) z) (by omega)) xA2, hE1 _ _ (by rintro (z | ⟨j, hj, z⟩) <;> exact hvi _ (by unfold uA; omega) z) xvi, hE1 _ _ (by rintro (z | ⟨j, hj, z⟩) <;> exact absurd (hJ.1 _ _ (by omega) (by omega) z) (by omega)) xA3, hE1 _ _ (by rintro (z | ⟨j, hj, z⟩) <;> exact absurd (hJ.1 _ _ (by omega) (by omega) z) (by omega)) xA4, hE1 _ _ (by rintro (z | ⟨j, hj, z⟩) <;> exact absurd (hJ.1 _ _ (by omega) (by omega) z) (by omega)) xA5, hE1 _ _ (by rintro (z | ⟨j, hj, z⟩) <;> exact absurd (hJ.1 _ _ (by omega) (by omega) z) (by omega)) xA6, hbef, fun j2 hj2 => hE1 _ _ (by rintro (z | ⟨j, hj, z⟩) <;> exact absurd (hJ.1 _ _ (by omega) (by omega) z) (by omega)) (xbs j2 hj2), hE1 _ _ (by rintro (z | ⟨j, hj, z⟩) <;> exact absurd (hJ.1 _ _ (by omega) (by omega) z) (by omega)) xA7, hslo, fun j2 hj2 => hE1 _ _ (by rintro (z | ⟨j, hj, z⟩) <;> exact absurd (hJ.1 _ _ (by omega) (by omega) z) (by omega)) (xss j2 hj2), hE1 _ _ (by rintro (z | ⟨j, hj, z⟩) <;> exact absurd (hJ.1 _ _ (by omega) (by omega) z) (by omega)) xA8, hE1 _ _ (by rintro (z | ⟨j, hj, z⟩) <;> exact absurd (hJ.1 _ _ (by omega) (by omega) z) (by omega)) xA9, hE1 _ _ (by rintro (z | ⟨j, hj, z⟩) <;> exact absurd (hJ.1 _ _ (by omega) (by omega) z) (by omega)) xA10, hE1 _ _ (by rintro (z | ⟨j, hj, z⟩) <;> exact absurd (hJ.1 _ _ (by omega) (by omega) z) (by omega)) xA11, hE1 _ _ (by rintro (z | ⟨j, hj, z⟩) <;> exact absurd (hJ.1 _ _ (by omega) (by omega) z) (by omega)) xA12, hE1 _ _ (by rintro (z | ⟨j, hj, z⟩) <;> exact absurd (hJ.1 _ _ (by omega) (by omega) z) (by omega)) xA13, hE1 _ _ (by rintro (z | ⟨j, hj, z⟩) <;> exact absurd (hJ.1 _ _ (by omega) (by omega) z) (by omega)) xA14, hE1 _ _ (by rintro (z | ⟨j, hj, z⟩) <;> exact absurd (hJ.1 _ _ (by omega) (by omega) z) (by omega)) xA15, hE1 _ _ (by rintro (z | ⟨j, hj, z⟩) <;> exact absurd (hJ.1 _ _ (by omega) (by omega) z) (by omega)) xA16, e0, hE1 _ _ (by rintro (z | ⟨j, hj, z⟩) <;> exact absurd (hJ.1 _ _ (by omega) (by omega) z) (by omega)) xA18, hste, e1⟩ hE2 (fun j2 hj2 => by rintro (z | z | z | z) <;> exact hJ.2.2 _ _ hj2 (by unfold uB; omega) z) (by rintro (z | z | z | z) <;> exact hviB _ (by unfold uB; omega) z), ⟨m0, hE2 _ _ (by rintro (z | z | z | z) <;> exact absurd (hJ.2.1 _ _ (by omega) (by omega) z) (by omega)) yB4, hE2 _ _ (by rintro (z | z | z | z) <;> exact absurd (hJ.2.1 _ _ (by omega) (by omega) z) (by omega)) yB5, hE2 _ _ (by rintro (z | z | z | z) <;> exact absurd (hJ.2.1 _ _ (by omega) (by omega) z) (by omega)) yB6, m1, hE2 _ _ (by rintro (z | z | z | z) <;> exact absurd (hJ.2.1 _ _ (by omega) (by omega) z) (by omega)) yB8, hE2 _ _ (by rintro (z | z | z | z) <;> exact absurd (hJ.2.1 _ _ (by omega) (by omega) z) (by omega)) yB10, hE2 _ _ (by rintro (z | z | z | z) <;> exact absurd (hJ.2.1 _ _ (by omega) (by omega) z) (by omega)) yB11, hE2 _ _ (by rintro (z | z | z | z) <;> exact absurd (hJ.2.1 _ _ (by omega) (by omega) z) (by omega)) yB12, hE2 _ _ (by rintro (z | z | z | z) <;> exact absurd (hJ.2.1 _ _ (by omega) (by omega) z) (by omega)) yB18, hE2 _ _ (by rintro (z | z | z | z) <;> exact absurd (hJ.2.1 _ _ (by omega) (by omega) z) (by omega)) yB19, hE2 _ _ (by rintro (z | z | z | z) <;> exact absurd (hJ.2.1 _ _ (by omega) (by omega) z) (by omega)) yB20, hE2 _ _ (by rintro (z | z | z | z) <;> exact absurd (hJ.2.1 _ _ (by omega) (by omega) z) (by omega)) yB21, hE2 _ _ (by rintro (z | z | z | z) <;> exact absurd (hJ.2.1 _ _ (by omega) (by omega) z) (by omega)) yB22, hE2 _ _ (by rintro (z | z | z | z) <;> exact absurd (hJ.2.1 _ _ (by omega) (by omega) z) (by omega)) yB24, hE2 _ _ (by rintro (z | z | z | z) <;> exact absurd (hJ.2.1 _ _ (by omega) (by omega) z) (by omega)) yB25, hE2 _ _ (by rintro (z | z | z | z) <;> exact absurd (hJ.2.1 _ _ (by omega) (by omega) z) (by omega)) yB26, hE2 _ _ (by rintro (z | z | z | z) <;> exact absurd (hJ.2.1 _ _ (by omega) (by omega) z) (by omega)) yB27, m2, m3⟩, hR1, hvi, hviB⟩ (by omega) (by omega)
end OPS
