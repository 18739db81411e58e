section OPS
variable {g : GT} {X : CtxT} {A B : Nat → Nat} {w : Wd} {k n b L i : Nat} {xs : Nat → Int32}
set_option maxHeartbeats 4000000 in
set_option maxRecDepth 100000 in
theorem op_seed (hC : Cx g X RL cL_law 4 ret room_1) (hX : SCR X b L xs) (hg : b < gB g) (hL : L ≤ 256) (hJ : IJ A B) (hS : LwS g A B w) (hi : i + 4 ≤ L) (hk : k + 2 ≤ 600000) (hn : n + 16 ≤ 7302250) (kk : ∀ (w2 : Wd) (k2 n2 : Nat), LwS g A B w2 → k2 ≤ k + 2 → n2 ≤ n + 16 → V g X 4 w2 k2 n2 1222 [(3, .int (nI i)), (2, .ref (B 0)), (1, .ref (A 0)), (0, .ref b)] []) : V g X 4 w k n 1076 [(3, .int (nI i)), (2, .ref (B 0)), (1, .ref (A 0)), (0, .ref b)] [] := by
  obtain ⟨vi, cv, kS, seed, tl, bytes, v, now, thought, st, ct, before, slots, steps, bs, ss, sc, kinds, moons, places, values, (⟨tp, aw, us, sh⟩), fits, left, needs, th, xat, xrh, xrp, xrw, path, home, kin, a, was, kept, isKept, text, rdPath, rdHome, rdKin, rd, sight, went, tales, tests, votes, begun, between, hW, hM, hR, hvi, hviB⟩ := hS
  obtain ⟨xA0, xA1, xA2, xvi, xA3, xA4, xA5, xA6, hbef, xbs, xA7, hslo, xss, xA8, xA9, xA10, xA11, xA12, xA13, xA14, xA15, xA16, xA17, xA18, hste, xst⟩ := hW
  have hix := actIx_lt st ct
  refine vv_aload_n hC 2 dL_law_1076 rfl rfl ?_
  refine vv_aload_n hC 3 dL_law_1077 rfl rfl ?_
  refine vv_iload_n hC 0 dL_law_1078 rfl rfl ?_
  refine vv_iconst (v := nI 1) hC dL_law_1079 rfl ?_
  refine vv_iadd hC dL_law_1080 ?_
  refine vv_topi (nI (i + 1)) (nI_add i 1) ?_
  refine vv_sld hC hX hg (i + 1) (by omega) (by omega) dL_law_1081 ?_
  refine vv_i2l hC dL_law_1082 ?_
  refine vv_bipush (v := 32) hC dL_law_1083 (by decide) ?_
  refine vv_lshl hC dL_law_1085 ?_
  refine vv_aload_n hC 3 dL_law_1086 rfl rfl ?_
  refine vv_iload_n hC 0 dL_law_1087 rfl rfl ?_
  refine vv_iconst (v := nI 2) hC dL_law_1088 rfl ?_
  refine vv_iadd hC dL_law_1089 ?_
  refine vv_topi (nI (i + 2)) (nI_add i 2) ?_
  refine vv_sld hC hX hg (i + 2) (by omega) (by omega) dL_law_1090 ?_
  refine vv_i2l hC dL_law_1091 ?_
  refine vv_ldc2 hC lk_l_L_13 dL_law_1092 ?_
  refine vv_land hC dL_law_1095 ?_
  refine vv_lor hC dL_law_1096 ?_
  refine vv_callV hC dL_law_1097 md_X8_seed lk_m_L_157 lk_i_X8_seed lk_s_X8_seed xA0 rfl (As := [.long ((lshl ((xs (i + 1)).toInt64) (32 : Int32)) ||| (((xs (i + 2)).toInt64) &&& (4294967295 : Int64)))]) (rest := []) (c_X8_seed g _ A hJ.1 vi kS seed ((lshl ((xs (i + 1)).toInt64) (32 : Int32)) ||| (((xs (i + 2)).toInt64) &&& (4294967295 : Int64))) xA0) rfl rfl (Nat.le_of_ble_eq_true rfl) ⟨Nat.le_of_ble_eq_true rfl, Nat.le_of_ble_eq_true rfl, (by show k + 0 ≤ 600000; omega), (by show n + 0 ≤ 7302250; omega)⟩ (fun r w1 hq => ?_)
  obtain ⟨rfl, e0, hE1⟩ := hq
  have hM1 := hM.keep hE1 (fun j2 hj2 => by rintro (z) <;> exact hJ.2.2 _ _ (by unfold uA; omega) hj2 z.symm)
  obtain ⟨yB0, yB4, yB5, yB6, yB7, yB8, yB10, yB11, yB12, yB18, yB19, yB20, yB21, yB22, yB24, yB25, yB26, yB27, yB28, yB29⟩ := hM1
  refine vv_aload_n hC 1 dL_law_1100 rfl rfl ?_
  refine vv_aload_n hC 3 dL_law_1101 rfl rfl ?_
  refine vv_iload_n hC 0 dL_law_1102 rfl rfl ?_
  refine vv_iconst (v := nI 1) hC dL_law_1103 rfl ?_
  refine vv_iadd hC dL_law_1104 ?_
  refine vv_topi (nI (i + 1)) (nI_add i 1) ?_
  refine vv_sld hC hX hg (i + 1) (by omega) (by omega) dL_law_1105 ?_
  refine vv_i2l hC dL_law_1106 ?_
  refine vv_bipush (v := 32) hC dL_law_1107 (by decide) ?_
  refine vv_lshl hC dL_law_1109 ?_
  refine vv_aload_n hC 3 dL_law_1110 rfl rfl ?_
  refine vv_iload_n hC 0 dL_law_1111 rfl rfl ?_
  refine vv_iconst (v := nI 2) hC dL_law_1112 rfl ?_
  refine vv_iadd hC dL_law_1113 ?_
  refine vv_topi (nI (i + 2)) (nI_add i 2) ?_
  refine vv_sld hC hX hg (i + 2) (by omega) (by omega) dL_law_1114 ?_
  refine vv_i2l hC dL_law_1115 ?_
  refine vv_ldc2 hC lk_l_L_13 dL_law_1116 ?_
  refine vv_land hC dL_law_1119 ?_
  refine vv_lor hC dL_law_1120 ?_
  refine vv_callV hC dL_law_1121 md_X9_seed lk_m_L_161 lk_i_X9_seed lk_s_X9_seed yB0 rfl (As := [.long ((lshl ((xs (i + 1)).toInt64) (32 : Int32)) ||| (((xs (i + 2)).toInt64) &&& (4294967295 : Int64)))]) (rest := [.long _]) (c_X9_seed g _ B hJ.2.1 th (gVi_houses v) (gVi_people v) (gVi_pathCount v) ct tl xat xrh xrp xrw sc seed ((lshl ((xs (i + 1)).toInt64) (32 : Int32)) ||| (((xs (i + 2)).toInt64) &&& (4294967295 : Int64))) yB0) rfl rfl (Nat.le_of_ble_eq_true rfl) ⟨Nat.le_of_ble_eq_true rfl, Nat.le_of_ble_eq_true rfl, (by show k + 0 + 0 ≤ 600000; omega), (by show n + 0 + 0 ≤ 7302250; omega)⟩ (fun r w2 hq => ?_)
  obtain ⟨rfl, m0, hE2⟩ := hq
  have hR1 := hR
  refine vv_lcmp hC dL_law_1124 ?_
  refine vv_if_eq hC 1222 dL_law_1125 (by decide) (fun _ => ?_) (fun z => absurd (lgc _) z)
  refine kk w2 _ _ ⟨_, _, _, _, _, _, _, _, _, _, _, _, _, _, _, _, _, _, _, _, _, _, _, _, _, _, _, _, _, _, _, _, _, _, _, _, _, _, _, _, _, _, _, _, _, _, _, _, _, WX.keep ⟨e0, hE1 _ _ (by rintro (z) <;> exact absurd (hJ.1 _ _ (by omega) (by omega) z) (by omega)) xA1, hE1 _ _ (by rintro (z) <;> exact absurd (hJ.1 _ _ (by omega) (by omega) z) (by omega)) xA2, hE1 _ _ (by rintro (z) <;> exact hvi _ (by unfold uA; omega) z) xvi, hE1 _ _ (by rintro (z) <;> exact absurd (hJ.1 _ _ (by omega) (by omega) z) (by omega)) xA3, hE1 _ _ (by rintro (z) <;> exact absurd (hJ.1 _ _ (by omega) (by omega) z) (by omega)) xA4, hE1 _ _ (by rintro (z) <;> exact absurd (hJ.1 _ _ (by omega) (by omega) z) (by omega)) xA5, hE1 _ _ (by rintro (z) <;> exact absurd (hJ.1 _ _ (by omega) (by omega) z) (by omega)) xA6, hbef, fun j2 hj2 => hE1 _ _ (by rintro (z) <;> exact absurd (hJ.1 _ _ (by omega) (by omega) z) (by omega)) (xbs j2 hj2), hE1 _ _ (by rintro (z) <;> exact absurd (hJ.1 _ _ (by omega) (by omega) z) (by omega)) xA7, hslo, fun j2 hj2 => hE1 _ _ (by rintro (z) <;> exact absurd (hJ.1 _ _ (by omega) (by omega) z) (by omega)) (xss j2 hj2), hE1 _ _ (by rintro (z) <;> exact absurd (hJ.1 _ _ (by omega) (by omega) z) (by omega)) xA8, hE1 _ _ (by rintro (z) <;> exact absurd (hJ.1 _ _ (by omega) (by omega) z) (by omega)) xA9, hE1 _ _ (by rintro (z) <;> exact absurd (hJ.1 _ _ (by omega) (by omega) z) (by omega)) xA10, hE1 _ _ (by rintro (z) <;> exact absurd (hJ.1 _ _ (by omega) (by omega) z) (by omega)) xA11, hE1 _ _ (by rintro (z) <;> exact absurd (hJ.1 _ _ (by omega) (by omega) z) (by omega)) xA12, hE1 _ _ (by rintro (z) <;> exact absurd (hJ.1 _ _ (by omega) (by omega) z) (by omega)) xA13, hE1 _ _ (by rintro (z) <;> exact absurd (hJ.1 _ _ (by omega) (by omega) z) (by omega)) xA14, hE1 _ _ (by rintro (z) <;> exact absurd (hJ.1 _ _ (by omega) (by omega) z) (by omega)) xA15, hE1 _ _ (by rintro (z) <;> exact absurd (hJ.1 _ _ (by omega) (by omega) z) (by omega)) xA16, hE1 _ _ (by rintro (z) <;> exact absurd (hJ.1 _ _ (by omega) (by omega) z) (by omega)) xA17, hE1 _ _ (by rintro (z) <;> exact absurd (hJ.1 _ _ (by omega) (by omega) z) (by omega)) xA18, hste, fun j2 hj2 => (xst j2 hj2).elim fun m hm => ⟨m, hE1 _ _ (by rintro (z) <;> exact absurd (hJ.1 _ _ (by omega) (by omega) z) (by omega)) hm⟩⟩ hE2 (fun j2 hj2 => by rintro (z) <;> exact hJ.2.2 _ _ hj2 (by unfold uB; omega) z) (by rintro (z) <;> exact hviB _ (by unfold uB; omega) z), ⟨m0, hE2 _ _ (by rintro (z) <;> exact absurd (hJ.2.1 _ _ (by omega) (by omega) z) (by omega)) yB4, hE2 _ _ (by rintro (z) <;> exact absurd (hJ.2.1 _ _ (by omega) (by omega) z) (by omega)) yB5, hE2 _ _ (by rintro (z) <;> exact absurd (hJ.2.1 _ _ (by omega) (by omega) z) (by omega)) yB6, hE2 _ _ (by rintro (z) <;> exact absurd (hJ.2.1 _ _ (by omega) (by omega) z) (by omega)) yB7, hE2 _ _ (by rintro (z) <;> exact absurd (hJ.2.1 _ _ (by omega) (by omega) z) (by omega)) yB8, hE2 _ _ (by rintro (z) <;> exact absurd (hJ.2.1 _ _ (by omega) (by omega) z) (by omega)) yB10, hE2 _ _ (by rintro (z) <;> exact absurd (hJ.2.1 _ _ (by omega) (by omega) z) (by omega)) yB11, hE2 _ _ (by rintro (z) <;> exact absurd (hJ.2.1 _ _ (by omega) (by omega) z) (by omega)) yB12, hE2 _ _ (by rintro (z) <;> exact absurd (hJ.2.1 _ _ (by omega) (by omega) z) (by omega)) yB18, hE2 _ _ (by rintro (z) <;> exact absurd (hJ.2.1 _ _ (by omega) (by omega) z) (by omega)) yB19, hE2 _ _ (by rintro (z) <;> exact absurd (hJ.2.1 _ _ (by omega) (by omega) z) (by omega)) yB20, hE2 _ _ (by rintro (z) <;> exact absurd (hJ.2.1 _ _ (by omega) (by omega) z) (by omega)) yB21, hE2 _ _ (by rintro (z) <;> exact absurd (hJ.2.1 _ _ (by omega) (by omega) z) (by omega)) yB22, hE2 _ _ (by rintro (z) <;> exact absurd (hJ.2.1 _ _ (by omega) (by omega) z) (by omega)) yB24, hE2 _ _ (by rintro (z) <;> exact absurd (hJ.2.1 _ _ (by omega) (by omega) z) (by omega)) yB25, hE2 _ _ (by rintro (z) <;> exact absurd (hJ.2.1 _ _ (by omega) (by omega) z) (by omega)) yB26, hE2 _ _ (by rintro (z) <;> exact absurd (hJ.2.1 _ _ (by omega) (by omega) z) (by omega)) yB27, hE2 _ _ (by rintro (z) <;> exact absurd (hJ.2.1 _ _ (by omega) (by omega) z) (by omega)) yB28, hE2 _ _ (by rintro (z) <;> exact absurd (hJ.2.1 _ _ (by omega) (by omega) z) (by omega)) yB29⟩, hR1, hvi, hviB⟩ (by omega) (by omega)
end OPS
