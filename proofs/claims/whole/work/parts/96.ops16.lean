section OPS
variable {g : GT} {X : CtxT} {A B : Nat → Nat} {w : Wd} {k n b L i : Nat} {xs : Nat → Int32}
set_option maxHeartbeats 4000000 in
set_option maxRecDepth 100000 in
theorem op_likely (hC : Cx g X RL cL_law 4 ret room_1) (hX : SCR X b L xs) (hg : b < gB g) (hL : L ≤ 256) (hJ : IJ A B) (hS : LwS g A B w) (hi : i + 4 ≤ L) (hk : k + 2 ≤ 600000) (hn : n + 16 ≤ 7302250) (kk : ∀ (w2 : Wd) (k2 n2 : Nat), LwS g A B w2 → k2 ≤ k + 2 → n2 ≤ n + 16 → V g X 4 w2 k2 n2 1222 [(3, .int (nI i)), (2, .ref (B 0)), (1, .ref (A 0)), (0, .ref b)] []) : V g X 4 w k n 878 [(3, .int (nI i)), (2, .ref (B 0)), (1, .ref (A 0)), (0, .ref b)] [] := by
  obtain ⟨vi, cv, kS, seed, tl, bytes, v, now, thought, st, ct, before, slots, steps, bs, ss, sc, kinds, moons, places, values, (⟨tp, aw, us, sh⟩), fits, left, needs, th, xat, xrh, xrp, xrw, path, home, kin, a, was, kept, isKept, text, rdPath, rdHome, rdKin, rd, sight, went, tales, tests, votes, begun, between, hW, hM, hR, hvi, hviB⟩ := hS
  obtain ⟨xA0, xA1, xA2, xvi, xA3, xA4, xA5, xA6, hbef, xbs, xA7, hslo, xss, xA8, xA9, xA10, xA11, xA12, xA13, xA14, xA15, xA16, xA17, xA18, hste, xst⟩ := hW
  have hix := actIx_lt st ct
  by_cases hz : xs (i + 2) = 0
  · skip
    refine vv_aload_n hC 2 dL_law_878 rfl rfl ?_
    refine vv_aload_n hC 3 dL_law_879 rfl rfl ?_
    refine vv_iload_n hC 0 dL_law_880 rfl rfl ?_
    refine vv_iconst (v := nI 1) hC dL_law_881 rfl ?_
    refine vv_iadd hC dL_law_882 ?_
    refine vv_topi (nI (i + 1)) (nI_add i 1) ?_
    refine vv_sld hC hX hg (i + 1) (by omega) (by omega) dL_law_883 ?_
    refine vv_aload_n hC 3 dL_law_884 rfl rfl ?_
    refine vv_iload_n hC 0 dL_law_885 rfl rfl ?_
    refine vv_iconst (v := nI 2) hC dL_law_886 rfl ?_
    refine vv_iadd hC dL_law_887 ?_
    refine vv_topi (nI (i + 2)) (nI_add i 2) ?_
    refine vv_sld hC hX hg (i + 2) (by omega) (by omega) dL_law_888 ?_
    refine vv_if_eq hC 896 dL_law_889 (by decide) (fun _ => ?_) (fun z => absurd hz z)
    refine vv_iconst (v := 0) hC dL_law_896 rfl ?_
    refine vv_callV hC dL_law_897 md_X8_likely lk_m_L_123 lk_i_X8_likely lk_s_X8_likely xA0 rfl (As := [.int (xs (i + 1)), .int (bI false)]) (rest := []) (c_X8_likely g _ A hJ.1 vi kS seed v tp aw us sh now sc fits kinds moons places values (xs (i + 1)) false hR.1.hH hR.1.hP hR.2.2.2.2.1.1 xA0 xvi xA13 xA3 xA8 xA14 xA9 xA10 xA11 xA12) rfl rfl (Nat.le_of_ble_eq_true rfl) ⟨Nat.le_of_ble_eq_true rfl, Nat.le_of_ble_eq_true rfl, (by show k + 0 ≤ 600000; omega), (by show n + 0 ≤ 7302250; omega)⟩ (fun r w1 hq => ?_)
    obtain ⟨rfl, e0, e1, hE1⟩ := hq
    have hM1 := hM.keep hE1 (fun j2 hj2 => by rintro (z | z) <;> exact hJ.2.2 _ _ (by unfold uA; omega) hj2 z.symm)
    obtain ⟨yB0, yB4, yB5, yB6, yB7, yB8, yB10, yB11, yB12, yB18, yB19, yB20, yB21, yB22, yB24, yB25, yB26, yB27, yB28, yB29⟩ := hM1
    refine vv_aload_n hC 1 dL_law_900 rfl rfl ?_
    refine vv_aload_n hC 3 dL_law_901 rfl rfl ?_
    refine vv_iload_n hC 0 dL_law_902 rfl rfl ?_
    refine vv_iconst (v := nI 1) hC dL_law_903 rfl ?_
    refine vv_iadd hC dL_law_904 ?_
    refine vv_topi (nI (i + 1)) (nI_add i 1) ?_
    refine vv_sld hC hX hg (i + 1) (by omega) (by omega) dL_law_905 ?_
    refine vv_aload_n hC 3 dL_law_906 rfl rfl ?_
    refine vv_iload_n hC 0 dL_law_907 rfl rfl ?_
    refine vv_iconst (v := nI 2) hC dL_law_908 rfl ?_
    refine vv_iadd hC dL_law_909 ?_
    refine vv_topi (nI (i + 2)) (nI_add i 2) ?_
    refine vv_sld hC hX hg (i + 2) (by omega) (by omega) dL_law_910 ?_
    refine vv_if_eq hC 918 dL_law_911 (by decide) (fun _ => ?_) (fun z => absurd hz z)
    refine vv_iconst (v := 0) hC dL_law_918 rfl ?_
    refine vv_callV hC dL_law_919 md_X9_likely lk_m_L_127 lk_i_X9_likely lk_s_X9_likely yB0 rfl (As := [.int (xs (i + 1)), .int (bI false)]) (rest := [.long _]) (c_X9_likely g _ B hJ.2.1 th (gVi_houses v) (gVi_people v) (gVi_pathCount v) ct tl xat xrh xrp xrw sc seed a tales sight went path home (xs (i + 1)) false hR.1.hP hR.1.hH hR.1.hom hR.2.2.2.2.1.1 (q_hendW hR) (q_likely hR tp aw us sh fits tales went (xs (i + 1)) false).2 yB0 yB7 yB25 yB22 yB24 yB4 yB5) rfl rfl (Nat.le_of_ble_eq_true rfl) ⟨Nat.le_of_ble_eq_true rfl, Nat.le_of_ble_eq_true rfl, (by show k + 0 + 0 ≤ 600000; omega), (by show n + 0 + 0 ≤ 7302250; omega)⟩ (fun r w2 hq => ?_)
    obtain ⟨rfl, m0, m1, m2, hE2⟩ := hq
    have hq1 := (q_likely hR tp aw us sh fits tales went (xs (i + 1)) false).1
    have hR1 := hR
    refine vv_lcmp hC dL_law_922 ?_
    refine vv_if_eq hC 1222 dL_law_923 (by decide) (fun _ => ?_) (fun z => absurd (by rw [hq1]; exact lgc _) z)
    refine kk w2 _ _ ⟨_, _, _, _, _, _, _, _, _, _, _, _, _, _, _, _, _, _, _, _, _, _, _, _, _, _, _, _, _, _, _, _, _, _, _, _, _, _, _, _, _, _, _, _, _, _, _, _, _, WX.keep ⟨hE1 _ _ (by rintro (z | z) <;> exact absurd (hJ.1 _ _ (by omega) (by omega) z) (by omega)) xA0, hE1 _ _ (by rintro (z | z) <;> exact absurd (hJ.1 _ _ (by omega) (by omega) z) (by omega)) xA1, hE1 _ _ (by rintro (z | z) <;> exact absurd (hJ.1 _ _ (by omega) (by omega) z) (by omega)) xA2, hE1 _ _ (by rintro (z | z) <;> exact hvi _ (by unfold uA; omega) z) xvi, hE1 _ _ (by rintro (z | z) <;> exact absurd (hJ.1 _ _ (by omega) (by omega) z) (by omega)) xA3, hE1 _ _ (by rintro (z | z) <;> exact absurd (hJ.1 _ _ (by omega) (by omega) z) (by omega)) xA4, hE1 _ _ (by rintro (z | z) <;> exact absurd (hJ.1 _ _ (by omega) (by omega) z) (by omega)) xA5, hE1 _ _ (by rintro (z | z) <;> exact absurd (hJ.1 _ _ (by omega) (by omega) z) (by omega)) xA6, hbef, fun j2 hj2 => hE1 _ _ (by rintro (z | z) <;> exact absurd (hJ.1 _ _ (by omega) (by omega) z) (by omega)) (xbs j2 hj2), hE1 _ _ (by rintro (z | z) <;> exact absurd (hJ.1 _ _ (by omega) (by omega) z) (by omega)) xA7, hslo, fun j2 hj2 => hE1 _ _ (by rintro (z | z) <;> exact absurd (hJ.1 _ _ (by omega) (by omega) z) (by omega)) (xss j2 hj2), hE1 _ _ (by rintro (z | z) <;> exact absurd (hJ.1 _ _ (by omega) (by omega) z) (by omega)) xA8, hE1 _ _ (by rintro (z | z) <;> exact absurd (hJ.1 _ _ (by omega) (by omega) z) (by omega)) xA9, hE1 _ _ (by rintro (z | z) <;> exact absurd (hJ.1 _ _ (by omega) (by omega) z) (by omega)) xA10, hE1 _ _ (by rintro (z | z) <;> exact absurd (hJ.1 _ _ (by omega) (by omega) z) (by omega)) xA11, hE1 _ _ (by rintro (z | z) <;> exact absurd (hJ.1 _ _ (by omega) (by omega) z) (by omega)) xA12, e0, e1, hE1 _ _ (by rintro (z | z) <;> exact absurd (hJ.1 _ _ (by omega) (by omega) z) (by omega)) xA15, hE1 _ _ (by rintro (z | z) <;> exact absurd (hJ.1 _ _ (by omega) (by omega) z) (by omega)) xA16, hE1 _ _ (by rintro (z | z) <;> exact absurd (hJ.1 _ _ (by omega) (by omega) z) (by omega)) xA17, hE1 _ _ (by rintro (z | z) <;> exact absurd (hJ.1 _ _ (by omega) (by omega) z) (by omega)) xA18, hste, fun j2 hj2 => (xst j2 hj2).elim fun m hm => ⟨m, hE1 _ _ (by rintro (z | z) <;> exact absurd (hJ.1 _ _ (by omega) (by omega) z) (by omega)) hm⟩⟩ hE2 (fun j2 hj2 => by rintro (z | z | z) <;> exact hJ.2.2 _ _ hj2 (by unfold uB; omega) z) (by rintro (z | z | z) <;> exact hviB _ (by unfold uB; omega) z), ⟨m0, hE2 _ _ (by rintro (z | z | z) <;> exact absurd (hJ.2.1 _ _ (by omega) (by omega) z) (by omega)) yB4, hE2 _ _ (by rintro (z | z | z) <;> exact absurd (hJ.2.1 _ _ (by omega) (by omega) z) (by omega)) yB5, hE2 _ _ (by rintro (z | z | z) <;> exact absurd (hJ.2.1 _ _ (by omega) (by omega) z) (by omega)) yB6, hE2 _ _ (by rintro (z | z | z) <;> exact absurd (hJ.2.1 _ _ (by omega) (by omega) z) (by omega)) yB7, hE2 _ _ (by rintro (z | z | z) <;> exact absurd (hJ.2.1 _ _ (by omega) (by omega) z) (by omega)) yB8, hE2 _ _ (by rintro (z | z | z) <;> exact absurd (hJ.2.1 _ _ (by omega) (by omega) z) (by omega)) yB10, hE2 _ _ (by rintro (z | z | z) <;> exact absurd (hJ.2.1 _ _ (by omega) (by omega) z) (by omega)) yB11, hE2 _ _ (by rintro (z | z | z) <;> exact absurd (hJ.2.1 _ _ (by omega) (by omega) z) (by omega)) yB12, hE2 _ _ (by rintro (z | z | z) <;> exact absurd (hJ.2.1 _ _ (by omega) (by omega) z) (by omega)) yB18, hE2 _ _ (by rintro (z | z | z) <;> exact absurd (hJ.2.1 _ _ (by omega) (by omega) z) (by omega)) yB19, hE2 _ _ (by rintro (z | z | z) <;> exact absurd (hJ.2.1 _ _ (by omega) (by omega) z) (by omega)) yB20, hE2 _ _ (by rintro (z | z | z) <;> exact absurd (hJ.2.1 _ _ (by omega) (by omega) z) (by omega)) yB21, hE2 _ _ (by rintro (z | z | z) <;> exact absurd (hJ.2.1 _ _ (by omega) (by omega) z) (by omega)) yB22, m2, m1, hE2 _ _ (by rintro (z | z | z) <;> exact absurd (hJ.2.1 _ _ (by omega) (by omega) z) (by omega)) yB26, hE2 _ _ (by rintro (z | z | z) <;> exact absurd (hJ.2.1 _ _ (by omega) (by omega) z) (by omega)) yB27, hE2 _ _ (by rintro (z | z | z) <;> exact absurd (hJ.2.1 _ _ (by omega) (by omega) z) (by omega)) yB28, hE2 _ _ (by rintro (z | z | z) <;> exact absurd (hJ.2.1 _ _ (by omega) (by omega) z) (by omega)) yB29⟩, hR1, hvi, hviB⟩ (by omega) (by omega)
  · skip
    refine vv_aload_n hC 2 dL_law_878 rfl rfl ?_
    refine vv_aload_n hC 3 dL_law_879 rfl rfl ?_
    refine vv_iload_n hC 0 dL_law_880 rfl rfl ?_
    refine vv_iconst (v := nI 1) hC dL_law_881 rfl ?_
    refine vv_iadd hC dL_law_882 ?_
    refine vv_topi (nI (i + 1)) (nI_add i 1) ?_
    refine vv_sld hC hX hg (i + 1) (by omega) (by omega) dL_law_883 ?_
    refine vv_aload_n hC 3 dL_law_884 rfl rfl ?_
    refine vv_iload_n hC 0 dL_law_885 rfl rfl ?_
    refine vv_iconst (v := nI 2) hC dL_law_886 rfl ?_
    refine vv_iadd hC dL_law_887 ?_
    refine vv_topi (nI (i + 2)) (nI_add i 2) ?_
    refine vv_sld hC hX hg (i + 2) (by omega) (by omega) dL_law_888 ?_
    refine vv_if_eq hC 896 dL_law_889 (by decide) (fun z => absurd z hz) (fun _ => ?_)
    refine vv_iconst (v := 1) hC dL_law_892 rfl ?_
    refine vv_goto hC 897 dL_law_893 (by decide) ?_
    refine vv_callV hC dL_law_897 md_X8_likely lk_m_L_123 lk_i_X8_likely lk_s_X8_likely xA0 rfl (As := [.int (xs (i + 1)), .int (bI true)]) (rest := []) (c_X8_likely g _ A hJ.1 vi kS seed v tp aw us sh now sc fits kinds moons places values (xs (i + 1)) true hR.1.hH hR.1.hP hR.2.2.2.2.1.1 xA0 xvi xA13 xA3 xA8 xA14 xA9 xA10 xA11 xA12) rfl rfl (Nat.le_of_ble_eq_true rfl) ⟨Nat.le_of_ble_eq_true rfl, Nat.le_of_ble_eq_true rfl, (by show k + 0 ≤ 600000; omega), (by show n + 0 ≤ 7302250; omega)⟩ (fun r w1 hq => ?_)
    obtain ⟨rfl, e0, e1, hE1⟩ := hq
    have hM1 := hM.keep hE1 (fun j2 hj2 => by rintro (z | z) <;> exact hJ.2.2 _ _ (by unfold uA; omega) hj2 z.symm)
    obtain ⟨yB0, yB4, yB5, yB6, yB7, yB8, yB10, yB11, yB12, yB18, yB19, yB20, yB21, yB22, yB24, yB25, yB26, yB27, yB28, yB29⟩ := hM1
    refine vv_aload_n hC 1 dL_law_900 rfl rfl ?_
    refine vv_aload_n hC 3 dL_law_901 rfl rfl ?_
    refine vv_iload_n hC 0 dL_law_902 rfl rfl ?_
    refine vv_iconst (v := nI 1) hC dL_law_903 rfl ?_
    refine vv_iadd hC dL_law_904 ?_
    refine vv_topi (nI (i + 1)) (nI_add i 1) ?_
    refine vv_sld hC hX hg (i + 1) (by omega) (by omega) dL_law_905 ?_
    refine vv_aload_n hC 3 dL_law_906 rfl rfl ?_
    refine vv_iload_n hC 0 dL_law_907 rfl rfl ?_
    refine vv_iconst (v := nI 2) hC dL_law_908 rfl ?_
    refine vv_iadd hC dL_law_909 ?_
    refine vv_topi (nI (i + 2)) (nI_add i 2) ?_
    refine vv_sld hC hX hg (i + 2) (by omega) (by omega) dL_law_910 ?_
    refine vv_if_eq hC 918 dL_law_911 (by decide) (fun z => absurd z hz) (fun _ => ?_)
    refine vv_iconst (v := 1) hC dL_law_914 rfl ?_
    refine vv_goto hC 919 dL_law_915 (by decide) ?_
    refine vv_callV hC dL_law_919 md_X9_likely lk_m_L_127 lk_i_X9_likely lk_s_X9_likely yB0 rfl (As := [.int (xs (i + 1)), .int (bI true)]) (rest := [.long _]) (c_X9_likely g _ B hJ.2.1 th (gVi_houses v) (gVi_people v) (gVi_pathCount v) ct tl xat xrh xrp xrw sc seed a tales sight went path home (xs (i + 1)) true hR.1.hP hR.1.hH hR.1.hom hR.2.2.2.2.1.1 (q_hendW hR) (q_likely hR tp aw us sh fits tales went (xs (i + 1)) true).2 yB0 yB7 yB25 yB22 yB24 yB4 yB5) rfl rfl (Nat.le_of_ble_eq_true rfl) ⟨Nat.le_of_ble_eq_true rfl, Nat.le_of_ble_eq_true rfl, (by show k + 0 + 0 ≤ 600000; omega), (by show n + 0 + 0 ≤ 7302250; omega)⟩ (fun r w2 hq => ?_)
    obtain ⟨rfl, m0, m1, m2, hE2⟩ := hq
    have hq1 := (q_likely hR tp aw us sh fits tales went (xs (i + 1)) true).1
    have hR1 := hR
    refine vv_lcmp hC dL_law_922 ?_
    refine vv_if_eq hC 1222 dL_law_923 (by decide) (fun _ => ?_) (fun z => absurd (by rw [hq1]; exact lgc _) z)
    refine kk w2 _ _ ⟨_, _, _, _, _, _, _, _, _, _, _, _, _, _, _, _, _, _, _, _, _, _, _, _, _, _, _, _, _, _, _, _, _, _, _, _, _, _, _, _, _, _, _, _, _, _, _, _, _, WX.keep ⟨hE1 _ _ (by rintro (z | z) <;> exact absurd (hJ.1 _ _ (by omega) (by omega) z) (by omega)) xA0, hE1 _ _ (by rintro (z | z) <;> exact absurd (hJ.1 _ _ (by omega) (by omega) z) (by omega)) xA1, hE1 _ _ (by rintro (z | z) <;> exact absurd (hJ.1 _ _ (by omega) (by omega) z) (by omega)) xA2, hE1 _ _ (by rintro (z | z) <;> exact hvi _ (by unfold uA; omega) z) xvi, hE1 _ _ (by rintro (z | z) <;> exact absurd (hJ.1 _ _ (by omega) (by omega) z) (by omega)) xA3, hE1 _ _ (by rintro (z | z) <;> exact absurd (hJ.1 _ _ (by omega) (by omega) z) (by omega)) xA4, hE1 _ _ (by rintro (z | z) <;> exact absurd (hJ.1 _ _ (by omega) (by omega) z) (by omega)) xA5, hE1 _ _ (by rintro (z | z) <;> exact absurd (hJ.1 _ _ (by omega) (by omega) z) (by omega)) xA6, hbef, fun j2 hj2 => hE1 _ _ (by rintro (z | z) <;> exact absurd (hJ.1 _ _ (by omega) (by omega) z) (by omega)) (xbs j2 hj2), hE1 _ _ (by rintro (z | z) <;> exact absurd (hJ.1 _ _ (by omega) (by omega) z) (by omega)) xA7, hslo, fun j2 hj2 => hE1 _ _ (by rintro (z | z) <;> exact absurd (hJ.1 _ _ (by omega) (by omega) z) (by omega)) (xss j2 hj2), hE1 _ _ (by rintro (z | z) <;> exact absurd (hJ.1 _ _ (by omega) (by omega) z) (by omega)) xA8, hE1 _ _ (by rintro (z | z) <;> exact absurd (hJ.1 _ _ (by omega) (by omega) z) (by omega)) xA9, hE1 _ _ (by rintro (z | z) <;> exact absurd (hJ.1 _ _ (by omega) (by omega) z) (by omega)) xA10, hE1 _ _ (by rintro (z | z) <;> exact absurd (hJ.1 _ _ (by omega) (by omega) z) (by omega)) xA11, hE1 _ _ (by rintro (z | z) <;> exact absurd (hJ.1 _ _ (by omega) (by omega) z) (by omega)) xA12, e0, e1, hE1 _ _ (by rintro (z | z) <;> exact absurd (hJ.1 _ _ (by omega) (by omega) z) (by omega)) xA15, hE1 _ _ (by rintro (z | z) <;> exact absurd (hJ.1 _ _ (by omega) (by omega) z) (by omega)) xA16, hE1 _ _ (by rintro (z | z) <;> exact absurd (hJ.1 _ _ (by omega) (by omega) z) (by omega)) xA17, hE1 _ _ (by rintro (z | z) <;> exact absurd (hJ.1 _ _ (by omega) (by omega) z) (by omega)) xA18, hste, fun j2 hj2 => (xst j2 hj2).elim fun m hm => ⟨m, hE1 _ _ (by rintro (z | z) <;> exact absurd (hJ.1 _ _ (by omega) (by omega) z) (by omega)) hm⟩⟩ hE2 (fun j2 hj2 => by rintro (z | z | z) <;> exact hJ.2.2 _ _ hj2 (by unfold uB; omega) z) (by rintro (z | z | z) <;> exact hviB _ (by unfold uB; omega) z), ⟨m0, hE2 _ _ (by rintro (z | z | z) <;> exact absurd (hJ.2.1 _ _ (by omega) (by omega) z) (by omega)) yB4, hE2 _ _ (by rintro (z | z | z) <;> exact absurd (hJ.2.1 _ _ (by omega) (by omega) z) (by omega)) yB5, hE2 _ _ (by rintro (z | z | z) <;> exact absurd (hJ.2.1 _ _ (by omega) (by omega) z) (by omega)) yB6, hE2 _ _ (by rintro (z | z | z) <;> exact absurd (hJ.2.1 _ _ (by omega) (by omega) z) (by omega)) yB7, hE2 _ _ (by rintro (z | z | z) <;> exact absurd (hJ.2.1 _ _ (by omega) (by omega) z) (by omega)) yB8, hE2 _ _ (by rintro (z | z | z) <;> exact absurd (hJ.2.1 _ _ (by omega) (by omega) z) (by omega)) yB10, hE2 _ _ (by rintro (z | z | z) <;> exact absurd (hJ.2.1 _ _ (by omega) (by omega) z) (by omega)) yB11, hE2 _ _ (by rintro (z | z | z) <;> exact absurd (hJ.2.1 _ _ (by omega) (by omega) z) (by omega)) yB12, hE2 _ _ (by rintro (z | z | z) <;> exact absurd (hJ.2.1 _ _ (by omega) (by omega) z) (by omega)) yB18, hE2 _ _ (by rintro (z | z | z) <;> exact absurd (hJ.2.1 _ _ (by omega) (by omega) z) (by omega)) yB19, hE2 _ _ (by rintro (z | z | z) <;> exact absurd (hJ.2.1 _ _ (by omega) (by omega) z) (by omega)) yB20, hE2 _ _ (by rintro (z | z | z) <;> exact absurd (hJ.2.1 _ _ (by omega) (by omega) z) (by omega)) yB21, hE2 _ _ (by rintro (z | z | z) <;> exact absurd (hJ.2.1 _ _ (by omega) (by omega) z) (by omega)) yB22, m2, m1, hE2 _ _ (by rintro (z | z | z) <;> exact absurd (hJ.2.1 _ _ (by omega) (by omega) z) (by omega)) yB26, hE2 _ _ (by rintro (z | z | z) <;> exact absurd (hJ.2.1 _ _ (by omega) (by omega) z) (by omega)) yB27, hE2 _ _ (by rintro (z | z | z) <;> exact absurd (hJ.2.1 _ _ (by omega) (by omega) z) (by omega)) yB28, hE2 _ _ (by rintro (z | z | z) <;> exact absurd (hJ.2.1 _ _ (by omega) (by omega) z) (by omega)) yB29⟩, hR1, hvi, hviB⟩ (by omega) (by omega)
end OPS
