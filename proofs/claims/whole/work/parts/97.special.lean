/-! the calls that are not of one form -/
theorem q_keep_out {kS : Int32} {tl : Nat} {bytes : Nat → Int32} {v : TVi} {now : TN} {st ct : Nat} {bs ss : Nat → TN} {sc : Nat} {kinds moons places values path home kin a was kept isKept text sight : Nat → Int32} (hR : RR kS tl bytes v now st ct bs ss sc kinds moons places values path home kin a was kept isKept text sight) (p1 : Int32) (hp : ¬ f_X9_in p1.toInt64 0 1 = true) : f_X8_keep_out = (f_X9_keep kept a isKept p1).1 ∧ RR kS tl bytes v now st ct bs ss sc kinds moons places values path home kin a was (f_X9_keep kept a isKept p1).2.2.1 (f_X9_keep kept a isKept p1).2.2.2 text sight := by
  unfold f_X9_keep
  rw [if_neg hp]
  exact ⟨rfl, hR⟩
theorem q_again_out {kS : Int32} {tl : Nat} {bytes : Nat → Int32} {v : TVi} {now : TN} {st ct : Nat} {bs ss : Nat → TN} {sc : Nat} {kinds moons places values path home kin a was kept isKept text sight : Nat → Int32} (hR : RR kS tl bytes v now st ct bs ss sc kinds moons places values path home kin a was kept isKept text sight) (p1 : Int32) (hp : ¬ f_X9_in p1.toInt64 0 1 = true) : f_X8_again_out = (f_X9_again ct isKept a kept p1).1 ∧ ct = (f_X9_again ct isKept a kept p1).2.2.1 ∧ RR kS tl bytes v now st ct bs ss sc kinds moons places values path home kin (f_X9_again ct isKept a kept p1).2.2.2 was kept isKept text sight := by
  unfold f_X9_again
  rw [if_neg hp]
  exact ⟨rfl, rfl, hR⟩
theorem WX.novi {g : GT} {A : Nat → Nat} {vi cv : Nat} {kS : Int32} {seed : Int64} {tl : Nat} {bytes : Nat → Int32} {v : TVi} {now thought : TN} {st ct : Nat} {before slots steps : Nat → Option Nat} {bs ss : Nat → TN} {sc : Nat} {kinds moons places values : Nat → Int32} {ta : TTa} {fits : Nat → Int64} {left needs : Nat → Int32} {w : Wd} (h : WX g A vi cv kS seed tl bytes v now thought st ct before slots steps bs ss sc kinds moons places values ta fits left needs w) : ∀ i, uA i → ¬ vi = A i := by
  obtain ⟨xA0, xA1, xA2, xvi, xA3, xA4, xA5, xA6, hbef, xbs, xA7, hslo, xss, xA8, xA9, xA10, xA11, xA12, xA13, xA14, xA15, xA16, xA17, xA18, hste, xst⟩ := h
  intro i hi z
  have hv : ∀ e, w (A i) = some e → e = .inr (7, cVi v) := fun e he => by rw [← z, xvi] at he; exact (Option.some.inj he).symm
  rcases (show i = 0 ∨ i = 1 ∨ i = 2 ∨ i = 3 ∨ i = 4 ∨ i = 5 ∨ i = 6 ∨ i = 7 ∨ i = 8 ∨ i = 9 ∨ i = 10 ∨ i = 11 ∨ i = 12 ∨ i = 13 ∨ i = 14 ∨ i = 15 ∨ i = 16 ∨ i = 17 ∨ i = 18 ∨ (20 ≤ i ∧ i < 36) ∨ (36 ≤ i ∧ i < 38) ∨ (40 ≤ i ∧ i < 56) by unfold uA at hi; omega) with rfl | rfl | rfl | rfl | rfl | rfl | rfl | rfl | rfl | rfl | rfl | rfl | rfl | rfl | rfl | rfl | rfl | rfl | rfl | ⟨h1, h2⟩ | ⟨h1, h2⟩ | ⟨h1, h2⟩
  · exact absurd (hv _ xA0) (by simp)
  · exact absurd (hv _ xA1) (by simp)
  · exact absurd (hv _ xA2) (by simp)
  · exact absurd (hv _ xA3) (by simp)
  · exact absurd (hv _ xA4) (by simp)
  · exact absurd (hv _ xA5) (by simp)
  · exact absurd (hv _ xA6) (by simp)
  · exact absurd (hv _ xA7) (by simp)
  · exact absurd (hv _ xA8) (by simp)
  · exact absurd (hv _ xA9) (by simp)
  · exact absurd (hv _ xA10) (by simp)
  · exact absurd (hv _ xA11) (by simp)
  · exact absurd (hv _ xA12) (by simp)
  · exact absurd (hv _ xA13) (by simp)
  · exact absurd (hv _ xA14) (by simp)
  · exact absurd (hv _ xA15) (by simp)
  · exact absurd (hv _ xA16) (by simp)
  · exact absurd (hv _ xA17) (by simp)
  · exact absurd (hv _ xA18) (by simp)
  · have y := xbs (i - 20) (by omega)
    rw [show 20 + (i - 20) = i by omega] at y
    exact absurd (hv _ y) (by simp)
  · have y := xss (i - 36) (by omega)
    rw [show 36 + (i - 36) = i by omega] at y
    exact absurd (hv _ y) (by simp)
  · obtain ⟨m, y⟩ := xst (i - 40) (by omega)
    rw [show 40 + (i - 40) = i by omega] at y
    exact absurd (hv _ y) (by simp)
theorem WM.novi {g : GT} {B : Nat → Nat} {x : TM} {path home kin a was kept isKept text rdPath rdHome rdKin rd sight went : Nat → Int32} {tales : Nat → Int64} {tests votes begun between : Nat → Int32} {w : Wd} {vi : Nat} {v : TVi} (xvi : w vi = some (.inr (7, cVi v))) (h : WM g B x path home kin a was kept isKept text rdPath rdHome rdKin rd sight went tales tests votes begun between w) : ∀ j, uB j → ¬ vi = B j := by
  obtain ⟨yB0, yB4, yB5, yB6, yB7, yB8, yB10, yB11, yB12, yB18, yB19, yB20, yB21, yB22, yB24, yB25, yB26, yB27, yB28, yB29⟩ := h
  intro i hi z
  have hv : ∀ e, w (B i) = some e → e = .inr (7, cVi v) := fun e he => by rw [← z, xvi] at he; exact (Option.some.inj he).symm
  unfold uB at hi
  rcases hi with rfl | rfl | rfl | rfl | rfl | rfl | rfl | rfl | rfl | rfl | rfl | rfl | rfl | rfl | rfl | rfl | rfl | rfl | rfl | rfl
  · exact absurd (hv _ yB0) (by simp)
  · exact absurd (hv _ yB4) (by simp)
  · exact absurd (hv _ yB5) (by simp)
  · exact absurd (hv _ yB6) (by simp)
  · exact absurd (hv _ yB7) (by simp)
  · exact absurd (hv _ yB8) (by simp)
  · exact absurd (hv _ yB10) (by simp)
  · exact absurd (hv _ yB11) (by simp)
  · exact absurd (hv _ yB12) (by simp)
  · exact absurd (hv _ yB18) (by simp)
  · exact absurd (hv _ yB19) (by simp)
  · exact absurd (hv _ yB20) (by simp)
  · exact absurd (hv _ yB21) (by simp)
  · exact absurd (hv _ yB22) (by simp)
  · exact absurd (hv _ yB24) (by simp)
  · exact absurd (hv _ yB25) (by simp)
  · exact absurd (hv _ yB26) (by simp)
  · exact absurd (hv _ yB27) (by simp)
  · exact absurd (hv _ yB28) (by simp)
  · exact absurd (hv _ yB29) (by simp)
section OPS
variable {g : GT} {X : CtxT} {A B : Nat → Nat} {w : Wd} {k n b L i : Nat} {xs : Nat → Int32}
set_option maxHeartbeats 4000000 in
set_option maxRecDepth 100000 in
theorem op_keep (hC : Cx g X RL cL_law 4 ret room_1) (hX : SCR X b L xs) (hg : b < gB g) (hL : L ≤ 256) (hJ : IJ A B) (hS : LwS g A B w) (hi : i + 4 ≤ L) (hk : k + 2 ≤ 600000) (hn : n + 16 ≤ 7302250) (kk : ∀ (w2 : Wd) (k2 n2 : Nat), LwS g A B w2 → k2 ≤ k + 2 → n2 ≤ n + 16 → V g X 4 w2 k2 n2 1222 [(3, .int (nI i)), (2, .ref (B 0)), (1, .ref (A 0)), (0, .ref b)] []) : V g X 4 w k n 1153 [(3, .int (nI i)), (2, .ref (B 0)), (1, .ref (A 0)), (0, .ref b)] [] := by
  obtain ⟨vi, cv, kS, seed, tl, bytes, v, now, thought, st, ct, before, slots, steps, bs, ss, sc, kinds, moons, places, values, (⟨tp, aw, us, sh⟩), fits, left, needs, th, xat, xrh, xrp, xrw, path, home, kin, a, was, kept, isKept, text, rdPath, rdHome, rdKin, rd, sight, went, tales, tests, votes, begun, between, hW, hM, hR, hvi, hviB⟩ := hS
  obtain ⟨xA0, xA1, xA2, xvi, xA3, xA4, xA5, xA6, hbef, xbs, xA7, hslo, xss, xA8, xA9, xA10, xA11, xA12, xA13, xA14, xA15, xA16, xA17, xA18, hste, xst⟩ := hW
  have hix := actIx_lt st ct
  by_cases hp : f_X9_in (xs (i + 1)).toInt64 0 1 = true
  · obtain ⟨hp1, hp2⟩ := (slot_in _).mp hp
    refine vv_aload_n hC 2 dL_law_1153 rfl rfl ?_
    refine vv_aload_n hC 3 dL_law_1154 rfl rfl ?_
    refine vv_iload_n hC 0 dL_law_1155 rfl rfl ?_
    refine vv_iconst (v := nI 1) hC dL_law_1156 rfl ?_
    refine vv_iadd hC dL_law_1157 ?_
    refine vv_topi (nI (i + 1)) (nI_add i 1) ?_
    refine vv_sld hC hX hg (i + 1) (by omega) (by omega) dL_law_1158 ?_
    refine vv_callV hC dL_law_1159 md_X8_keep lk_m_L_166 lk_i_X8_keep lk_s_X8_keep xA0 rfl (As := [.int (xs (i + 1))]) (rest := []) (c_X8_keep_in g _ A hJ.1 vi _ kS seed slots _ now (xs (i + 1)) hp1 hp2 (hslo _ hp2) xA0 xA7 (xss _ hp2) xA3 (na hJ.1 (by omega) (by omega) (by omega))) rfl rfl (Nat.le_of_ble_eq_true rfl) ⟨Nat.le_of_ble_eq_true rfl, Nat.le_of_ble_eq_true rfl, (by show k + 0 ≤ 600000; omega), (by show n + 0 ≤ 7302250; omega)⟩ (fun r w1 hq => ?_)
    obtain ⟨rfl, e0, e_el, hE1⟩ := hq
    have hM1 := hM.keep hE1 (fun j2 hj2 => by rintro (z | z) <;> exact hJ.2.2 _ _ (by unfold uA; omega) hj2 z.symm)
    obtain ⟨yB0, yB4, yB5, yB6, yB7, yB8, yB10, yB11, yB12, yB18, yB19, yB20, yB21, yB22, yB24, yB25, yB26, yB27, yB28, yB29⟩ := hM1
    refine vv_aload_n hC 1 dL_law_1162 rfl rfl ?_
    refine vv_aload_n hC 3 dL_law_1163 rfl rfl ?_
    refine vv_iload_n hC 0 dL_law_1164 rfl rfl ?_
    refine vv_iconst (v := nI 1) hC dL_law_1165 rfl ?_
    refine vv_iadd hC dL_law_1166 ?_
    refine vv_topi (nI (i + 1)) (nI_add i 1) ?_
    refine vv_sld hC hX hg (i + 1) (by omega) (by omega) dL_law_1167 ?_
    refine vv_callV hC dL_law_1168 md_X9_keep lk_m_L_169 lk_i_X9_keep lk_s_X9_keep yB0 rfl (As := [.int (xs (i + 1))]) (rest := [.int _]) (c_X9_keep g _ B hJ.2.1 th (gVi_houses v) (gVi_people v) (gVi_pathCount v) ct tl xat xrh xrp xrw sc seed kept a isKept (xs (i + 1)) yB0 yB10 yB7 yB11) rfl rfl (Nat.le_of_ble_eq_true rfl) ⟨Nat.le_of_ble_eq_true rfl, Nat.le_of_ble_eq_true rfl, (by show k + 0 + 0 ≤ 600000; omega), (by show n + 0 + 0 ≤ 7302250; omega)⟩ (fun r w2 hq => ?_)
    obtain ⟨rfl, m0, m1, m2, hE2⟩ := hq
    obtain ⟨hq1, hR1⟩ := q_keep hR (xs (i + 1)) hp1 hp2 _
    refine vv_icmp_eq hC 1222 dL_law_1171 (by decide) (fun _ => ?_) (fun z => absurd hq1 z)
    refine kk w2 _ _ ⟨_, _, _, _, _, _, _, _, _, _, _, _, _, _, _, _, _, _, _, _, _, _, _, _, _, _, _, _, _, _, _, _, _, _, _, _, _, _, _, _, _, _, _, _, _, _, _, _, _, WX.keep ⟨e0, hE1 _ _ (by rintro (z | z) <;> exact absurd (hJ.1 _ _ (by omega) (by omega) z) (by omega)) xA1, hE1 _ _ (by rintro (z | z) <;> exact absurd (hJ.1 _ _ (by omega) (by omega) z) (by omega)) xA2, hE1 _ _ (by rintro (z | z) <;> exact hvi _ (by unfold uA; omega) z) xvi, hE1 _ _ (by rintro (z | z) <;> exact absurd (hJ.1 _ _ (by omega) (by omega) z) (by omega)) xA3, hE1 _ _ (by rintro (z | z) <;> exact absurd (hJ.1 _ _ (by omega) (by omega) z) (by omega)) xA4, hE1 _ _ (by rintro (z | z) <;> exact absurd (hJ.1 _ _ (by omega) (by omega) z) (by omega)) xA5, hE1 _ _ (by rintro (z | z) <;> exact absurd (hJ.1 _ _ (by omega) (by omega) z) (by omega)) xA6, hbef, fun j2 hj2 => hE1 _ _ (by rintro (z | z) <;> exact absurd (hJ.1 _ _ (by omega) (by omega) z) (by omega)) (xbs j2 hj2), hE1 _ _ (by rintro (z | z) <;> exact absurd (hJ.1 _ _ (by omega) (by omega) z) (by omega)) xA7, hslo, (fun j hj => by
        unfold va_up
        by_cases e : j = tn (xs (i + 1))
        · rw [e, if_pos rfl]; exact e_el
        · rw [if_neg e]; exact hE1 _ _ (by rintro (z | z) <;> exact absurd (hJ.1 _ _ (by omega) (by omega) z) (by omega)) (xss j hj)), hE1 _ _ (by rintro (z | z) <;> exact absurd (hJ.1 _ _ (by omega) (by omega) z) (by omega)) xA8, hE1 _ _ (by rintro (z | z) <;> exact absurd (hJ.1 _ _ (by omega) (by omega) z) (by omega)) xA9, hE1 _ _ (by rintro (z | z) <;> exact absurd (hJ.1 _ _ (by omega) (by omega) z) (by omega)) xA10, hE1 _ _ (by rintro (z | z) <;> exact absurd (hJ.1 _ _ (by omega) (by omega) z) (by omega)) xA11, hE1 _ _ (by rintro (z | z) <;> exact absurd (hJ.1 _ _ (by omega) (by omega) z) (by omega)) xA12, hE1 _ _ (by rintro (z | z) <;> exact absurd (hJ.1 _ _ (by omega) (by omega) z) (by omega)) xA13, hE1 _ _ (by rintro (z | z) <;> exact absurd (hJ.1 _ _ (by omega) (by omega) z) (by omega)) xA14, hE1 _ _ (by rintro (z | z) <;> exact absurd (hJ.1 _ _ (by omega) (by omega) z) (by omega)) xA15, hE1 _ _ (by rintro (z | z) <;> exact absurd (hJ.1 _ _ (by omega) (by omega) z) (by omega)) xA16, hE1 _ _ (by rintro (z | z) <;> exact absurd (hJ.1 _ _ (by omega) (by omega) z) (by omega)) xA17, hE1 _ _ (by rintro (z | z) <;> exact absurd (hJ.1 _ _ (by omega) (by omega) z) (by omega)) xA18, hste, fun j2 hj2 => (xst j2 hj2).elim fun m hm => ⟨m, hE1 _ _ (by rintro (z | z) <;> exact absurd (hJ.1 _ _ (by omega) (by omega) z) (by omega)) hm⟩⟩ hE2 (fun j2 hj2 => by rintro (z | z | z) <;> exact hJ.2.2 _ _ hj2 (by unfold uB; omega) z) (by rintro (z | z | z) <;> exact hviB _ (by unfold uB; omega) z), ⟨m0, hE2 _ _ (by rintro (z | z | z) <;> exact absurd (hJ.2.1 _ _ (by omega) (by omega) z) (by omega)) yB4, hE2 _ _ (by rintro (z | z | z) <;> exact absurd (hJ.2.1 _ _ (by omega) (by omega) z) (by omega)) yB5, hE2 _ _ (by rintro (z | z | z) <;> exact absurd (hJ.2.1 _ _ (by omega) (by omega) z) (by omega)) yB6, hE2 _ _ (by rintro (z | z | z) <;> exact absurd (hJ.2.1 _ _ (by omega) (by omega) z) (by omega)) yB7, hE2 _ _ (by rintro (z | z | z) <;> exact absurd (hJ.2.1 _ _ (by omega) (by omega) z) (by omega)) yB8, m1, m2, hE2 _ _ (by rintro (z | z | z) <;> exact absurd (hJ.2.1 _ _ (by omega) (by omega) z) (by omega)) yB12, hE2 _ _ (by rintro (z | z | z) <;> exact absurd (hJ.2.1 _ _ (by omega) (by omega) z) (by omega)) yB18, hE2 _ _ (by rintro (z | z | z) <;> exact absurd (hJ.2.1 _ _ (by omega) (by omega) z) (by omega)) yB19, hE2 _ _ (by rintro (z | z | z) <;> exact absurd (hJ.2.1 _ _ (by omega) (by omega) z) (by omega)) yB20, hE2 _ _ (by rintro (z | z | z) <;> exact absurd (hJ.2.1 _ _ (by omega) (by omega) z) (by omega)) yB21, hE2 _ _ (by rintro (z | z | z) <;> exact absurd (hJ.2.1 _ _ (by omega) (by omega) z) (by omega)) yB22, hE2 _ _ (by rintro (z | z | z) <;> exact absurd (hJ.2.1 _ _ (by omega) (by omega) z) (by omega)) yB24, hE2 _ _ (by rintro (z | z | z) <;> exact absurd (hJ.2.1 _ _ (by omega) (by omega) z) (by omega)) yB25, hE2 _ _ (by rintro (z | z | z) <;> exact absurd (hJ.2.1 _ _ (by omega) (by omega) z) (by omega)) yB26, hE2 _ _ (by rintro (z | z | z) <;> exact absurd (hJ.2.1 _ _ (by omega) (by omega) z) (by omega)) yB27, hE2 _ _ (by rintro (z | z | z) <;> exact absurd (hJ.2.1 _ _ (by omega) (by omega) z) (by omega)) yB28, hE2 _ _ (by rintro (z | z | z) <;> exact absurd (hJ.2.1 _ _ (by omega) (by omega) z) (by omega)) yB29⟩, hR1, hvi, hviB⟩ (by omega) (by omega)
  · skip
    refine vv_aload_n hC 2 dL_law_1153 rfl rfl ?_
    refine vv_aload_n hC 3 dL_law_1154 rfl rfl ?_
    refine vv_iload_n hC 0 dL_law_1155 rfl rfl ?_
    refine vv_iconst (v := nI 1) hC dL_law_1156 rfl ?_
    refine vv_iadd hC dL_law_1157 ?_
    refine vv_topi (nI (i + 1)) (nI_add i 1) ?_
    refine vv_sld hC hX hg (i + 1) (by omega) (by omega) dL_law_1158 ?_
    refine vv_callV hC dL_law_1159 md_X8_keep lk_m_L_166 lk_i_X8_keep lk_s_X8_keep xA0 rfl (As := [.int (xs (i + 1))]) (rest := []) (c_X8_keep_out g _ A hJ.1 vi kS seed slots (xs (i + 1)) (slot_out hp) xA0 xA7) rfl rfl (Nat.le_of_ble_eq_true rfl) ⟨Nat.le_of_ble_eq_true rfl, Nat.le_of_ble_eq_true rfl, (by show k + 0 ≤ 600000; omega), (by show n + 0 ≤ 7302250; omega)⟩ (fun r w1 hq => ?_)
    obtain ⟨rfl, rfl⟩ := hq
    have hM1 := hM
    obtain ⟨yB0, yB4, yB5, yB6, yB7, yB8, yB10, yB11, yB12, yB18, yB19, yB20, yB21, yB22, yB24, yB25, yB26, yB27, yB28, yB29⟩ := hM1
    refine vv_aload_n hC 1 dL_law_1162 rfl rfl ?_
    refine vv_aload_n hC 3 dL_law_1163 rfl rfl ?_
    refine vv_iload_n hC 0 dL_law_1164 rfl rfl ?_
    refine vv_iconst (v := nI 1) hC dL_law_1165 rfl ?_
    refine vv_iadd hC dL_law_1166 ?_
    refine vv_topi (nI (i + 1)) (nI_add i 1) ?_
    refine vv_sld hC hX hg (i + 1) (by omega) (by omega) dL_law_1167 ?_
    refine vv_callV hC dL_law_1168 md_X9_keep lk_m_L_169 lk_i_X9_keep lk_s_X9_keep yB0 rfl (As := [.int (xs (i + 1))]) (rest := [.int _]) (c_X9_keep g _ B hJ.2.1 th (gVi_houses v) (gVi_people v) (gVi_pathCount v) ct tl xat xrh xrp xrw sc seed kept a isKept (xs (i + 1)) yB0 yB10 yB7 yB11) rfl rfl (Nat.le_of_ble_eq_true rfl) ⟨Nat.le_of_ble_eq_true rfl, Nat.le_of_ble_eq_true rfl, (by show k + 0 + 0 ≤ 600000; omega), (by show n + 0 + 0 ≤ 7302250; omega)⟩ (fun r w2 hq => ?_)
    obtain ⟨rfl, m0, m1, m2, hE2⟩ := hq
    obtain ⟨hq1, hR1⟩ := q_keep_out hR (xs (i + 1)) hp
    refine vv_icmp_eq hC 1222 dL_law_1171 (by decide) (fun _ => ?_) (fun z => absurd hq1 z)
    refine kk w2 _ _ ⟨_, _, _, _, _, _, _, _, _, _, _, _, _, _, _, _, _, _, _, _, _, _, _, _, _, _, _, _, _, _, _, _, _, _, _, _, _, _, _, _, _, _, _, _, _, _, _, _, _, WX.keep ⟨xA0, xA1, xA2, xvi, xA3, xA4, xA5, xA6, hbef, xbs, xA7, hslo, xss, xA8, xA9, xA10, xA11, xA12, xA13, xA14, xA15, xA16, xA17, xA18, hste, xst⟩ hE2 (fun j2 hj2 => by rintro (z | z | z) <;> exact hJ.2.2 _ _ hj2 (by unfold uB; omega) z) (by rintro (z | z | z) <;> exact hviB _ (by unfold uB; omega) z), ⟨m0, hE2 _ _ (by rintro (z | z | z) <;> exact absurd (hJ.2.1 _ _ (by omega) (by omega) z) (by omega)) yB4, hE2 _ _ (by rintro (z | z | z) <;> exact absurd (hJ.2.1 _ _ (by omega) (by omega) z) (by omega)) yB5, hE2 _ _ (by rintro (z | z | z) <;> exact absurd (hJ.2.1 _ _ (by omega) (by omega) z) (by omega)) yB6, hE2 _ _ (by rintro (z | z | z) <;> exact absurd (hJ.2.1 _ _ (by omega) (by omega) z) (by omega)) yB7, hE2 _ _ (by rintro (z | z | z) <;> exact absurd (hJ.2.1 _ _ (by omega) (by omega) z) (by omega)) yB8, m1, m2, hE2 _ _ (by rintro (z | z | z) <;> exact absurd (hJ.2.1 _ _ (by omega) (by omega) z) (by omega)) yB12, hE2 _ _ (by rintro (z | z | z) <;> exact absurd (hJ.2.1 _ _ (by omega) (by omega) z) (by omega)) yB18, hE2 _ _ (by rintro (z | z | z) <;> exact absurd (hJ.2.1 _ _ (by omega) (by omega) z) (by omega)) yB19, hE2 _ _ (by rintro (z | z | z) <;> exact absurd (hJ.2.1 _ _ (by omega) (by omega) z) (by omega)) yB20, hE2 _ _ (by rintro (z | z | z) <;> exact absurd (hJ.2.1 _ _ (by omega) (by omega) z) (by omega)) yB21, hE2 _ _ (by rintro (z | z | z) <;> exact absurd (hJ.2.1 _ _ (by omega) (by omega) z) (by omega)) yB22, hE2 _ _ (by rintro (z | z | z) <;> exact absurd (hJ.2.1 _ _ (by omega) (by omega) z) (by omega)) yB24, hE2 _ _ (by rintro (z | z | z) <;> exact absurd (hJ.2.1 _ _ (by omega) (by omega) z) (by omega)) yB25, hE2 _ _ (by rintro (z | z | z) <;> exact absurd (hJ.2.1 _ _ (by omega) (by omega) z) (by omega)) yB26, hE2 _ _ (by rintro (z | z | z) <;> exact absurd (hJ.2.1 _ _ (by omega) (by omega) z) (by omega)) yB27, hE2 _ _ (by rintro (z | z | z) <;> exact absurd (hJ.2.1 _ _ (by omega) (by omega) z) (by omega)) yB28, hE2 _ _ (by rintro (z | z | z) <;> exact absurd (hJ.2.1 _ _ (by omega) (by omega) z) (by omega)) yB29⟩, hR1, hvi, hviB⟩ (by omega) (by omega)
set_option maxHeartbeats 4000000 in
set_option maxRecDepth 100000 in
theorem op_again (hC : Cx g X RL cL_law 4 ret room_1) (hX : SCR X b L xs) (hg : b < gB g) (hL : L ≤ 256) (hJ : IJ A B) (hS : LwS g A B w) (hi : i + 4 ≤ L) (hk : k + 2 ≤ 600000) (hn : n + 16 ≤ 7302250) (kk : ∀ (w2 : Wd) (k2 n2 : Nat), LwS g A B w2 → k2 ≤ k + 2 → n2 ≤ n + 16 → V g X 4 w2 k2 n2 1222 [(3, .int (nI i)), (2, .ref (B 0)), (1, .ref (A 0)), (0, .ref b)] []) : V g X 4 w k n 1176 [(3, .int (nI i)), (2, .ref (B 0)), (1, .ref (A 0)), (0, .ref b)] [] := by
  obtain ⟨vi, cv, kS, seed, tl, bytes, v, now, thought, st, ct, before, slots, steps, bs, ss, sc, kinds, moons, places, values, (⟨tp, aw, us, sh⟩), fits, left, needs, th, xat, xrh, xrp, xrw, path, home, kin, a, was, kept, isKept, text, rdPath, rdHome, rdKin, rd, sight, went, tales, tests, votes, begun, between, hW, hM, hR, hvi, hviB⟩ := hS
  obtain ⟨xA0, xA1, xA2, xvi, xA3, xA4, xA5, xA6, hbef, xbs, xA7, hslo, xss, xA8, xA9, xA10, xA11, xA12, xA13, xA14, xA15, xA16, xA17, xA18, hste, xst⟩ := hW
  have hix := actIx_lt st ct
  by_cases hp : f_X9_in (xs (i + 1)).toInt64 0 1 = true
  · obtain ⟨hp1, hp2⟩ := (slot_in _).mp hp
    refine vv_aload_n hC 2 dL_law_1176 rfl rfl ?_
    refine vv_aload_n hC 3 dL_law_1177 rfl rfl ?_
    refine vv_iload_n hC 0 dL_law_1178 rfl rfl ?_
    refine vv_iconst (v := nI 1) hC dL_law_1179 rfl ?_
    refine vv_iadd hC dL_law_1180 ?_
    refine vv_topi (nI (i + 1)) (nI_add i 1) ?_
    refine vv_sld hC hX hg (i + 1) (by omega) (by omega) dL_law_1181 ?_
    refine vv_callV hC dL_law_1182 md_X8_again lk_m_L_170 lk_i_X8_again lk_s_X8_again xA0 rfl (As := [.int (xs (i + 1))]) (rest := []) (c_X8_again_in g _ A hJ.1 vi _ kS seed slots _ now st ct (xs (i + 1)) hp1 hp2 (hslo _ hp2) xA0 xA7 (xss _ hp2) xA3 xA5 (na hJ.1 (by omega) (by omega) (by omega))) rfl rfl (Nat.le_of_ble_eq_true rfl) ⟨Nat.le_of_ble_eq_true rfl, Nat.le_of_ble_eq_true rfl, (by show k + 0 ≤ 600000; omega), (by show n + 0 ≤ 7302250; omega)⟩ (fun r w1 hq => ?_)
    obtain ⟨rfl, e0, e1, hE1⟩ := hq
    have hM1 := hM.keep hE1 (fun j2 hj2 => by rintro (z | z) <;> exact hJ.2.2 _ _ (by unfold uA; omega) hj2 z.symm)
    obtain ⟨yB0, yB4, yB5, yB6, yB7, yB8, yB10, yB11, yB12, yB18, yB19, yB20, yB21, yB22, yB24, yB25, yB26, yB27, yB28, yB29⟩ := hM1
    refine vv_aload_n hC 1 dL_law_1185 rfl rfl ?_
    refine vv_aload_n hC 3 dL_law_1186 rfl rfl ?_
    refine vv_iload_n hC 0 dL_law_1187 rfl rfl ?_
    refine vv_iconst (v := nI 1) hC dL_law_1188 rfl ?_
    refine vv_iadd hC dL_law_1189 ?_
    refine vv_topi (nI (i + 1)) (nI_add i 1) ?_
    refine vv_sld hC hX hg (i + 1) (by omega) (by omega) dL_law_1190 ?_
    refine vv_callV hC dL_law_1191 md_X9_again lk_m_L_173 lk_i_X9_again lk_s_X9_again yB0 rfl (As := [.int (xs (i + 1))]) (rest := [.int _]) (c_X9_again g _ B hJ.2.1 th (gVi_houses v) (gVi_people v) (gVi_pathCount v) ct tl xat xrh xrp xrw sc seed isKept a kept (xs (i + 1)) yB0 yB11 yB7 yB10) rfl rfl (Nat.le_of_ble_eq_true rfl) ⟨Nat.le_of_ble_eq_true rfl, Nat.le_of_ble_eq_true rfl, (by show k + 0 + 0 ≤ 600000; omega), (by show n + 0 + 0 ≤ 7302250; omega)⟩ (fun r w2 hq => ?_)
    obtain ⟨rfl, m0, m1, hE2⟩ := hq
    obtain ⟨hq1, hq2, hR1⟩ := q_again hR (xs (i + 1)) hp1 hp2 _ rfl
    rw [← hq2] at m0
    refine vv_icmp_eq hC 1222 dL_law_1194 (by decide) (fun _ => ?_) (fun z => absurd hq1 z)
    refine kk w2 _ _ ⟨_, _, _, _, _, _, _, _, _, _, _, _, _, _, _, _, _, _, _, _, _, _, _, _, _, _, _, _, _, _, _, _, _, _, _, _, _, _, _, _, _, _, _, _, _, _, _, _, _, WX.keep ⟨hE1 _ _ (by rintro (z | z) <;> exact absurd (hJ.1 _ _ (by omega) (by omega) z) (by omega)) xA0, hE1 _ _ (by rintro (z | z) <;> exact absurd (hJ.1 _ _ (by omega) (by omega) z) (by omega)) xA1, hE1 _ _ (by rintro (z | z) <;> exact absurd (hJ.1 _ _ (by omega) (by omega) z) (by omega)) xA2, hE1 _ _ (by rintro (z | z) <;> exact hvi _ (by unfold uA; omega) z) xvi, e0, hE1 _ _ (by rintro (z | z) <;> exact absurd (hJ.1 _ _ (by omega) (by omega) z) (by omega)) xA4, e1, hE1 _ _ (by rintro (z | z) <;> exact absurd (hJ.1 _ _ (by omega) (by omega) z) (by omega)) xA6, hbef, fun j2 hj2 => hE1 _ _ (by rintro (z | z) <;> exact absurd (hJ.1 _ _ (by omega) (by omega) z) (by omega)) (xbs j2 hj2), hE1 _ _ (by rintro (z | z) <;> exact absurd (hJ.1 _ _ (by omega) (by omega) z) (by omega)) xA7, hslo, fun j2 hj2 => hE1 _ _ (by rintro (z | z) <;> exact absurd (hJ.1 _ _ (by omega) (by omega) z) (by omega)) (xss j2 hj2), hE1 _ _ (by rintro (z | z) <;> exact absurd (hJ.1 _ _ (by omega) (by omega) z) (by omega)) xA8, hE1 _ _ (by rintro (z | z) <;> exact absurd (hJ.1 _ _ (by omega) (by omega) z) (by omega)) xA9, hE1 _ _ (by rintro (z | z) <;> exact absurd (hJ.1 _ _ (by omega) (by omega) z) (by omega)) xA10, hE1 _ _ (by rintro (z | z) <;> exact absurd (hJ.1 _ _ (by omega) (by omega) z) (by omega)) xA11, hE1 _ _ (by rintro (z | z) <;> exact absurd (hJ.1 _ _ (by omega) (by omega) z) (by omega)) xA12, hE1 _ _ (by rintro (z | z) <;> exact absurd (hJ.1 _ _ (by omega) (by omega) z) (by omega)) xA13, hE1 _ _ (by rintro (z | z) <;> exact absurd (hJ.1 _ _ (by omega) (by omega) z) (by omega)) xA14, hE1 _ _ (by rintro (z | z) <;> exact absurd (hJ.1 _ _ (by omega) (by omega) z) (by omega)) xA15, hE1 _ _ (by rintro (z | z) <;> exact absurd (hJ.1 _ _ (by omega) (by omega) z) (by omega)) xA16, hE1 _ _ (by rintro (z | z) <;> exact absurd (hJ.1 _ _ (by omega) (by omega) z) (by omega)) xA17, hE1 _ _ (by rintro (z | z) <;> exact absurd (hJ.1 _ _ (by omega) (by omega) z) (by omega)) xA18, hste, fun j2 hj2 => (xst j2 hj2).elim fun m hm => ⟨m, hE1 _ _ (by rintro (z | z) <;> exact absurd (hJ.1 _ _ (by omega) (by omega) z) (by omega)) hm⟩⟩ hE2 (fun j2 hj2 => by rintro (z | z) <;> exact hJ.2.2 _ _ hj2 (by unfold uB; omega) z) (by rintro (z | z) <;> exact hviB _ (by unfold uB; omega) z), ⟨m0, hE2 _ _ (by rintro (z | z) <;> exact absurd (hJ.2.1 _ _ (by omega) (by omega) z) (by omega)) yB4, hE2 _ _ (by rintro (z | z) <;> exact absurd (hJ.2.1 _ _ (by omega) (by omega) z) (by omega)) yB5, hE2 _ _ (by rintro (z | z) <;> exact absurd (hJ.2.1 _ _ (by omega) (by omega) z) (by omega)) yB6, m1, hE2 _ _ (by rintro (z | z) <;> exact absurd (hJ.2.1 _ _ (by omega) (by omega) z) (by omega)) yB8, hE2 _ _ (by rintro (z | z) <;> exact absurd (hJ.2.1 _ _ (by omega) (by omega) z) (by omega)) yB10, hE2 _ _ (by rintro (z | z) <;> exact absurd (hJ.2.1 _ _ (by omega) (by omega) z) (by omega)) yB11, hE2 _ _ (by rintro (z | z) <;> exact absurd (hJ.2.1 _ _ (by omega) (by omega) z) (by omega)) yB12, hE2 _ _ (by rintro (z | z) <;> exact absurd (hJ.2.1 _ _ (by omega) (by omega) z) (by omega)) yB18, hE2 _ _ (by rintro (z | z) <;> exact absurd (hJ.2.1 _ _ (by omega) (by omega) z) (by omega)) yB19, hE2 _ _ (by rintro (z | z) <;> exact absurd (hJ.2.1 _ _ (by omega) (by omega) z) (by omega)) yB20, hE2 _ _ (by rintro (z | z) <;> exact absurd (hJ.2.1 _ _ (by omega) (by omega) z) (by omega)) yB21, hE2 _ _ (by rintro (z | z) <;> exact absurd (hJ.2.1 _ _ (by omega) (by omega) z) (by omega)) yB22, hE2 _ _ (by rintro (z | z) <;> exact absurd (hJ.2.1 _ _ (by omega) (by omega) z) (by omega)) yB24, hE2 _ _ (by rintro (z | z) <;> exact absurd (hJ.2.1 _ _ (by omega) (by omega) z) (by omega)) yB25, hE2 _ _ (by rintro (z | z) <;> exact absurd (hJ.2.1 _ _ (by omega) (by omega) z) (by omega)) yB26, hE2 _ _ (by rintro (z | z) <;> exact absurd (hJ.2.1 _ _ (by omega) (by omega) z) (by omega)) yB27, hE2 _ _ (by rintro (z | z) <;> exact absurd (hJ.2.1 _ _ (by omega) (by omega) z) (by omega)) yB28, hE2 _ _ (by rintro (z | z) <;> exact absurd (hJ.2.1 _ _ (by omega) (by omega) z) (by omega)) yB29⟩, hR1, hvi, hviB⟩ (by omega) (by omega)
  · skip
    refine vv_aload_n hC 2 dL_law_1176 rfl rfl ?_
    refine vv_aload_n hC 3 dL_law_1177 rfl rfl ?_
    refine vv_iload_n hC 0 dL_law_1178 rfl rfl ?_
    refine vv_iconst (v := nI 1) hC dL_law_1179 rfl ?_
    refine vv_iadd hC dL_law_1180 ?_
    refine vv_topi (nI (i + 1)) (nI_add i 1) ?_
    refine vv_sld hC hX hg (i + 1) (by omega) (by omega) dL_law_1181 ?_
    refine vv_callV hC dL_law_1182 md_X8_again lk_m_L_170 lk_i_X8_again lk_s_X8_again xA0 rfl (As := [.int (xs (i + 1))]) (rest := []) (c_X8_again_out g _ A hJ.1 vi kS seed slots (xs (i + 1)) (slot_out hp) xA0 xA7) rfl rfl (Nat.le_of_ble_eq_true rfl) ⟨Nat.le_of_ble_eq_true rfl, Nat.le_of_ble_eq_true rfl, (by show k + 0 ≤ 600000; omega), (by show n + 0 ≤ 7302250; omega)⟩ (fun r w1 hq => ?_)
    obtain ⟨rfl, rfl⟩ := hq
    have hM1 := hM
    obtain ⟨yB0, yB4, yB5, yB6, yB7, yB8, yB10, yB11, yB12, yB18, yB19, yB20, yB21, yB22, yB24, yB25, yB26, yB27, yB28, yB29⟩ := hM1
    refine vv_aload_n hC 1 dL_law_1185 rfl rfl ?_
    refine vv_aload_n hC 3 dL_law_1186 rfl rfl ?_
    refine vv_iload_n hC 0 dL_law_1187 rfl rfl ?_
    refine vv_iconst (v := nI 1) hC dL_law_1188 rfl ?_
    refine vv_iadd hC dL_law_1189 ?_
    refine vv_topi (nI (i + 1)) (nI_add i 1) ?_
    refine vv_sld hC hX hg (i + 1) (by omega) (by omega) dL_law_1190 ?_
    refine vv_callV hC dL_law_1191 md_X9_again lk_m_L_173 lk_i_X9_again lk_s_X9_again yB0 rfl (As := [.int (xs (i + 1))]) (rest := [.int _]) (c_X9_again g _ B hJ.2.1 th (gVi_houses v) (gVi_people v) (gVi_pathCount v) ct tl xat xrh xrp xrw sc seed isKept a kept (xs (i + 1)) yB0 yB11 yB7 yB10) rfl rfl (Nat.le_of_ble_eq_true rfl) ⟨Nat.le_of_ble_eq_true rfl, Nat.le_of_ble_eq_true rfl, (by show k + 0 + 0 ≤ 600000; omega), (by show n + 0 + 0 ≤ 7302250; omega)⟩ (fun r w2 hq => ?_)
    obtain ⟨rfl, m0, m1, hE2⟩ := hq
    obtain ⟨hq1, hq2, hR1⟩ := q_again_out hR (xs (i + 1)) hp
    rw [← hq2] at m0
    refine vv_icmp_eq hC 1222 dL_law_1194 (by decide) (fun _ => ?_) (fun z => absurd hq1 z)
    refine kk w2 _ _ ⟨_, _, _, _, _, _, _, _, _, _, _, _, _, _, _, _, _, _, _, _, _, _, _, _, _, _, _, _, _, _, _, _, _, _, _, _, _, _, _, _, _, _, _, _, _, _, _, _, _, WX.keep ⟨xA0, xA1, xA2, xvi, xA3, xA4, xA5, xA6, hbef, xbs, xA7, hslo, xss, xA8, xA9, xA10, xA11, xA12, xA13, xA14, xA15, xA16, xA17, xA18, hste, xst⟩ hE2 (fun j2 hj2 => by rintro (z | z) <;> exact hJ.2.2 _ _ hj2 (by unfold uB; omega) z) (by rintro (z | z) <;> exact hviB _ (by unfold uB; omega) z), ⟨m0, hE2 _ _ (by rintro (z | z) <;> exact absurd (hJ.2.1 _ _ (by omega) (by omega) z) (by omega)) yB4, hE2 _ _ (by rintro (z | z) <;> exact absurd (hJ.2.1 _ _ (by omega) (by omega) z) (by omega)) yB5, hE2 _ _ (by rintro (z | z) <;> exact absurd (hJ.2.1 _ _ (by omega) (by omega) z) (by omega)) yB6, m1, hE2 _ _ (by rintro (z | z) <;> exact absurd (hJ.2.1 _ _ (by omega) (by omega) z) (by omega)) yB8, hE2 _ _ (by rintro (z | z) <;> exact absurd (hJ.2.1 _ _ (by omega) (by omega) z) (by omega)) yB10, hE2 _ _ (by rintro (z | z) <;> exact absurd (hJ.2.1 _ _ (by omega) (by omega) z) (by omega)) yB11, hE2 _ _ (by rintro (z | z) <;> exact absurd (hJ.2.1 _ _ (by omega) (by omega) z) (by omega)) yB12, hE2 _ _ (by rintro (z | z) <;> exact absurd (hJ.2.1 _ _ (by omega) (by omega) z) (by omega)) yB18, hE2 _ _ (by rintro (z | z) <;> exact absurd (hJ.2.1 _ _ (by omega) (by omega) z) (by omega)) yB19, hE2 _ _ (by rintro (z | z) <;> exact absurd (hJ.2.1 _ _ (by omega) (by omega) z) (by omega)) yB20, hE2 _ _ (by rintro (z | z) <;> exact absurd (hJ.2.1 _ _ (by omega) (by omega) z) (by omega)) yB21, hE2 _ _ (by rintro (z | z) <;> exact absurd (hJ.2.1 _ _ (by omega) (by omega) z) (by omega)) yB22, hE2 _ _ (by rintro (z | z) <;> exact absurd (hJ.2.1 _ _ (by omega) (by omega) z) (by omega)) yB24, hE2 _ _ (by rintro (z | z) <;> exact absurd (hJ.2.1 _ _ (by omega) (by omega) z) (by omega)) yB25, hE2 _ _ (by rintro (z | z) <;> exact absurd (hJ.2.1 _ _ (by omega) (by omega) z) (by omega)) yB26, hE2 _ _ (by rintro (z | z) <;> exact absurd (hJ.2.1 _ _ (by omega) (by omega) z) (by omega)) yB27, hE2 _ _ (by rintro (z | z) <;> exact absurd (hJ.2.1 _ _ (by omega) (by omega) z) (by omega)) yB28, hE2 _ _ (by rintro (z | z) <;> exact absurd (hJ.2.1 _ _ (by omega) (by omega) z) (by omega)) yB29⟩, hR1, hvi, hviB⟩ (by omega) (by omega)
set_option maxHeartbeats 4000000 in
set_option maxRecDepth 100000 in
theorem op_village (hC : Cx g X RL cL_law 4 ret room_1) (hX : SCR X b L xs) (hg : b < gB g) (hL : L ≤ 256) (hJ : IJ A B) (hS : LwS g A B w) (hi : i + 4 ≤ L) (hk : k + 2 ≤ 600000) (hn : n + 16 ≤ 7302250) (kk : ∀ (w2 : Wd) (k2 n2 : Nat), LwS g A B w2 → k2 ≤ k + 2 → n2 ≤ n + 16 → V g X 4 w2 k2 n2 1222 [(3, .int (nI i)), (2, .ref (B 0)), (1, .ref (A 0)), (0, .ref b)] []) : V g X 4 w k n 289 [(3, .int (nI i)), (2, .ref (B 0)), (1, .ref (A 0)), (0, .ref b)] [] := by
  obtain ⟨vi, cv, kS, seed, tl, bytes, v, now, thought, st, ct, before, slots, steps, bs, ss, sc, kinds, moons, places, values, (⟨tp, aw, us, sh⟩), fits, left, needs, th, xat, xrh, xrp, xrw, path, home, kin, a, was, kept, isKept, text, rdPath, rdHome, rdKin, rd, sight, went, tales, tests, votes, begun, between, hW, hM, hR, hvi, hviB⟩ := hS
  obtain ⟨xA0, xA1, xA2, xvi, xA3, xA4, xA5, xA6, hbef, xbs, xA7, hslo, xss, xA8, xA9, xA10, xA11, xA12, xA13, xA14, xA15, xA16, xA17, xA18, hste, xst⟩ := hW
  have hix := actIx_lt st ct
  refine vv_aload_n hC 2 dL_law_289 rfl rfl ?_
  refine vv_callV hC dL_law_290 md_X8_village lk_m_L_29 lk_i_X8_village lk_s_X8_village xA0 rfl (As := []) (rest := []) (c_X8_village g _ A vi kS seed tl bytes now st ct xA0 xA1 xA2 xA3 xA5) rfl rfl (Nat.le_of_ble_eq_true rfl) ⟨Nat.le_of_ble_eq_true rfl, Nat.le_of_ble_eq_true rfl, (by show k + 2 ≤ 600000; omega), (by show n + 16 ≤ 7302250; omega)⟩ (fun r w1 hq => ?_)
  obtain ⟨rfl, hcase⟩ := hq
  obtain ⟨hq1, hyes, hno⟩ := q_village hR rd rdPath rdHome rdKin
  rcases hcase with ⟨hf, hE1⟩ | ⟨hf, q, hq0, e0, evi, e3, e5, hE1⟩
  · skip
    have hW1 := WX.keep (g := g) (A := A) (w2 := w1) (⟨xA0, xA1, xA2, xvi, xA3, xA4, xA5, xA6, hbef, xbs, xA7, hslo, xss, xA8, xA9, xA10, xA11, xA12, xA13, xA14, xA15, xA16, xA17, xA18, hste, xst⟩ : WX g A vi cv kS seed tl bytes v now thought st ct before slots steps bs ss sc kinds moons places values (tp, aw, us, sh) fits left needs w) hE1 (fun _ _ z => z) (fun z => z)
    have hM1 := hM.keep hE1 (fun _ _ z => z)
    have hvB := WM.novi hW1.2.2.2.1 hM1
    have hvA := hW1.novi
    obtain ⟨yB0, yB4, yB5, yB6, yB7, yB8, yB10, yB11, yB12, yB18, yB19, yB20, yB21, yB22, yB24, yB25, yB26, yB27, yB28, yB29⟩ := hM1
    refine vv_aload_n hC 1 dL_law_293 rfl rfl ?_
    refine vv_callV hC dL_law_294 md_X9_village lk_m_L_32 lk_i_X9_village lk_s_X9_village yB0 rfl (As := []) (rest := [.int _]) (c_X9_village g _ B hJ.2.1 th (gVi_houses v) (gVi_people v) (gVi_pathCount v) ct tl xat xrh xrp xrw sc seed rd rdPath rdHome rdKin text a path home kin isKept hR.2.2.2.2.2.1 yB0 yB21 yB18 yB19 yB20 yB12 yB7 yB4 yB5 yB6 yB11) rfl rfl (Nat.le_of_ble_eq_true rfl) ⟨Nat.le_of_ble_eq_true rfl, Nat.le_of_ble_eq_true rfl, (by show k + 2 + 0 ≤ 600000; omega), (by show n + 16 + 0 ≤ 7302250; omega)⟩ (fun r w2 hq => ?_)
    obtain ⟨rfl, m0, m1, m2, m3, m4, m5, m6, m7, m8, m9, hE2⟩ := hq
    obtain ⟨n1, n2, n3, n4, n5⟩ := hno hf
    rw [n1, n2, n3, n4] at m0
    rw [n5] at m5
    rw [n5] at m6
    rw [n5] at m7
    rw [n5] at m8
    rw [n5] at m9
    have hR1 := hR
    refine vv_icmp_eq hC 1222 dL_law_297 (by decide) (fun _ => ?_) (fun z => absurd hq1 z)
    refine kk w2 _ _ ⟨_, _, _, _, _, _, _, _, _, _, _, _, _, _, _, _, _, _, _, _, _, _, _, _, _, _, _, _, _, _, _, _, _, _, _, _, _, _, _, _, _, _, _, _, _, _, _, _, _, hW1.keep hE2 (fun j2 hj2 => by rintro (z | z | z | z | z | z | z | z | z | z) <;> exact hJ.2.2 _ _ hj2 (by unfold uB; omega) z) (by rintro (z | z | z | z | z | z | z | z | z | z) <;> exact hvB _ (by unfold uB; omega) z), ⟨m0, m6, m7, m8, m5, hE2 _ _ (by rintro (z | z | z | z | z | z | z | z | z | z) <;> exact absurd (hJ.2.1 _ _ (by omega) (by omega) z) (by omega)) yB8, hE2 _ _ (by rintro (z | z | z | z | z | z | z | z | z | z) <;> exact absurd (hJ.2.1 _ _ (by omega) (by omega) z) (by omega)) yB10, m9, hE2 _ _ (by rintro (z | z | z | z | z | z | z | z | z | z) <;> exact absurd (hJ.2.1 _ _ (by omega) (by omega) z) (by omega)) yB12, m2, m3, m4, m1, hE2 _ _ (by rintro (z | z | z | z | z | z | z | z | z | z) <;> exact absurd (hJ.2.1 _ _ (by omega) (by omega) z) (by omega)) yB22, hE2 _ _ (by rintro (z | z | z | z | z | z | z | z | z | z) <;> exact absurd (hJ.2.1 _ _ (by omega) (by omega) z) (by omega)) yB24, hE2 _ _ (by rintro (z | z | z | z | z | z | z | z | z | z) <;> exact absurd (hJ.2.1 _ _ (by omega) (by omega) z) (by omega)) yB25, hE2 _ _ (by rintro (z | z | z | z | z | z | z | z | z | z) <;> exact absurd (hJ.2.1 _ _ (by omega) (by omega) z) (by omega)) yB26, hE2 _ _ (by rintro (z | z | z | z | z | z | z | z | z | z) <;> exact absurd (hJ.2.1 _ _ (by omega) (by omega) z) (by omega)) yB27, hE2 _ _ (by rintro (z | z | z | z | z | z | z | z | z | z) <;> exact absurd (hJ.2.1 _ _ (by omega) (by omega) z) (by omega)) yB28, hE2 _ _ (by rintro (z | z | z | z | z | z | z | z | z | z) <;> exact absurd (hJ.2.1 _ _ (by omega) (by omega) z) (by omega)) yB29⟩, hR1, hvA, hvB⟩ (by omega) (by omega)
  · skip
    have hex : ∀ i, uA i → ¬ q = A i := fun i hi z => by
      rw [z] at hq0
      rcases (show i = 0 ∨ i = 1 ∨ i = 2 ∨ i = 3 ∨ i = 4 ∨ i = 5 ∨ i = 6 ∨ i = 7 ∨ i = 8 ∨ i = 9 ∨ i = 10 ∨ i = 11 ∨ i = 12 ∨ i = 13 ∨ i = 14 ∨ i = 15 ∨ i = 16 ∨ i = 17 ∨ i = 18 ∨ (20 ≤ i ∧ i < 36) ∨ (36 ≤ i ∧ i < 38) ∨ (40 ≤ i ∧ i < 56) by unfold uA at hi; omega) with rfl | rfl | rfl | rfl | rfl | rfl | rfl | rfl | rfl | rfl | rfl | rfl | rfl | rfl | rfl | rfl | rfl | rfl | rfl | ⟨h1, h2⟩ | ⟨h1, h2⟩ | ⟨h1, h2⟩
      · rw [xA0] at hq0; cases hq0
      · rw [xA1] at hq0; cases hq0
      · rw [xA2] at hq0; cases hq0
      · rw [xA3] at hq0; cases hq0
      · rw [xA4] at hq0; cases hq0
      · rw [xA5] at hq0; cases hq0
      · rw [xA6] at hq0; cases hq0
      · rw [xA7] at hq0; cases hq0
      · rw [xA8] at hq0; cases hq0
      · rw [xA9] at hq0; cases hq0
      · rw [xA10] at hq0; cases hq0
      · rw [xA11] at hq0; cases hq0
      · rw [xA12] at hq0; cases hq0
      · rw [xA13] at hq0; cases hq0
      · rw [xA14] at hq0; cases hq0
      · rw [xA15] at hq0; cases hq0
      · rw [xA16] at hq0; cases hq0
      · rw [xA17] at hq0; cases hq0
      · rw [xA18] at hq0; cases hq0
      · have y := xbs (i - 20) (by omega)
        rw [show 20 + (i - 20) = i by omega, hq0] at y
        cases y
      · have y := xss (i - 36) (by omega)
        rw [show 36 + (i - 36) = i by omega, hq0] at y
        cases y
      · obtain ⟨m, y⟩ := xst (i - 40) (by omega)
        rw [show 40 + (i - 40) = i by omega, hq0] at y
        cases y
    have hW1 : WX g A q cv 0 seed tl bytes (f_X3_read 0 (-9) (-9) tl bytes zVi).2.2.2.2 (f_X2_begin now (f_X3_read 0 (-9) (-9) tl bytes zVi).2.2.2.2) thought st 0 before slots steps bs ss sc kinds moons places values (tp, aw, us, sh) fits left needs w1 := ⟨e0, hE1 _ _ (by rintro (z | z | z) <;> exact absurd (hJ.1 _ _ (by omega) (by omega) z) (by omega)) xA1, hE1 _ _ (by rintro (z | z | z) <;> exact absurd (hJ.1 _ _ (by omega) (by omega) z) (by omega)) xA2, evi, e3, hE1 _ _ (by rintro (z | z | z) <;> exact absurd (hJ.1 _ _ (by omega) (by omega) z) (by omega)) xA4, e5, hE1 _ _ (by rintro (z | z | z) <;> exact absurd (hJ.1 _ _ (by omega) (by omega) z) (by omega)) xA6, hbef, fun j2 hj2 => hE1 _ _ (by rintro (z | z | z) <;> exact absurd (hJ.1 _ _ (by omega) (by omega) z) (by omega)) (xbs j2 hj2), hE1 _ _ (by rintro (z | z | z) <;> exact absurd (hJ.1 _ _ (by omega) (by omega) z) (by omega)) xA7, hslo, fun j2 hj2 => hE1 _ _ (by rintro (z | z | z) <;> exact absurd (hJ.1 _ _ (by omega) (by omega) z) (by omega)) (xss j2 hj2), hE1 _ _ (by rintro (z | z | z) <;> exact absurd (hJ.1 _ _ (by omega) (by omega) z) (by omega)) xA8, hE1 _ _ (by rintro (z | z | z) <;> exact absurd (hJ.1 _ _ (by omega) (by omega) z) (by omega)) xA9, hE1 _ _ (by rintro (z | z | z) <;> exact absurd (hJ.1 _ _ (by omega) (by omega) z) (by omega)) xA10, hE1 _ _ (by rintro (z | z | z) <;> exact absurd (hJ.1 _ _ (by omega) (by omega) z) (by omega)) xA11, hE1 _ _ (by rintro (z | z | z) <;> exact absurd (hJ.1 _ _ (by omega) (by omega) z) (by omega)) xA12, hE1 _ _ (by rintro (z | z | z) <;> exact absurd (hJ.1 _ _ (by omega) (by omega) z) (by omega)) xA13, hE1 _ _ (by rintro (z | z | z) <;> exact absurd (hJ.1 _ _ (by omega) (by omega) z) (by omega)) xA14, hE1 _ _ (by rintro (z | z | z) <;> exact absurd (hJ.1 _ _ (by omega) (by omega) z) (by omega)) xA15, hE1 _ _ (by rintro (z | z | z) <;> exact absurd (hJ.1 _ _ (by omega) (by omega) z) (by omega)) xA16, hE1 _ _ (by rintro (z | z | z) <;> exact absurd (hJ.1 _ _ (by omega) (by omega) z) (by omega)) xA17, hE1 _ _ (by rintro (z | z | z) <;> exact absurd (hJ.1 _ _ (by omega) (by omega) z) (by omega)) xA18, hste, fun j2 hj2 => (xst j2 hj2).elim fun m hm => ⟨m, hE1 _ _ (by rintro (z | z | z) <;> exact absurd (hJ.1 _ _ (by omega) (by omega) z) (by omega)) hm⟩⟩
    have hM1 := hM.keep hE1 (fun j2 hj2 => by rintro (z | z | z) <;> exact hJ.2.2 _ _ (by unfold uA; omega) hj2 z.symm)
    have hvB := WM.novi hW1.2.2.2.1 hM1
    have hvA := hW1.novi
    obtain ⟨yB0, yB4, yB5, yB6, yB7, yB8, yB10, yB11, yB12, yB18, yB19, yB20, yB21, yB22, yB24, yB25, yB26, yB27, yB28, yB29⟩ := hM1
    refine vv_aload_n hC 1 dL_law_293 rfl rfl ?_
    refine vv_callV hC dL_law_294 md_X9_village lk_m_L_32 lk_i_X9_village lk_s_X9_village yB0 rfl (As := []) (rest := [.int _]) (c_X9_village g _ B hJ.2.1 th (gVi_houses v) (gVi_people v) (gVi_pathCount v) ct tl xat xrh xrp xrw sc seed rd rdPath rdHome rdKin text a path home kin isKept hR.2.2.2.2.2.1 yB0 yB21 yB18 yB19 yB20 yB12 yB7 yB4 yB5 yB6 yB11) rfl rfl (Nat.le_of_ble_eq_true rfl) ⟨Nat.le_of_ble_eq_true rfl, Nat.le_of_ble_eq_true rfl, (by show k + 2 + 0 ≤ 600000; omega), (by show n + 16 + 0 ≤ 7302250; omega)⟩ (fun r w2 hq => ?_)
    obtain ⟨rfl, m0, m1, m2, m3, m4, m5, m6, m7, m8, m9, hE2⟩ := hq
    obtain ⟨n1, n2, n3, n4, hR1⟩ := hyes hf
    rw [n1, n2, n3, n4] at m0
    refine vv_icmp_eq hC 1222 dL_law_297 (by decide) (fun _ => ?_) (fun z => absurd hq1 z)
    refine kk w2 _ _ ⟨_, _, _, _, _, _, _, _, _, _, _, _, _, _, _, _, _, _, _, _, _, _, _, _, _, _, _, _, _, _, _, _, _, _, _, _, _, _, _, _, _, _, _, _, _, _, _, _, _, hW1.keep hE2 (fun j2 hj2 => by rintro (z | z | z | z | z | z | z | z | z | z) <;> exact hJ.2.2 _ _ hj2 (by unfold uB; omega) z) (by rintro (z | z | z | z | z | z | z | z | z | z) <;> exact hvB _ (by unfold uB; omega) z), ⟨m0, m6, m7, m8, m5, hE2 _ _ (by rintro (z | z | z | z | z | z | z | z | z | z) <;> exact absurd (hJ.2.1 _ _ (by omega) (by omega) z) (by omega)) yB8, hE2 _ _ (by rintro (z | z | z | z | z | z | z | z | z | z) <;> exact absurd (hJ.2.1 _ _ (by omega) (by omega) z) (by omega)) yB10, m9, hE2 _ _ (by rintro (z | z | z | z | z | z | z | z | z | z) <;> exact absurd (hJ.2.1 _ _ (by omega) (by omega) z) (by omega)) yB12, m2, m3, m4, m1, hE2 _ _ (by rintro (z | z | z | z | z | z | z | z | z | z) <;> exact absurd (hJ.2.1 _ _ (by omega) (by omega) z) (by omega)) yB22, hE2 _ _ (by rintro (z | z | z | z | z | z | z | z | z | z) <;> exact absurd (hJ.2.1 _ _ (by omega) (by omega) z) (by omega)) yB24, hE2 _ _ (by rintro (z | z | z | z | z | z | z | z | z | z) <;> exact absurd (hJ.2.1 _ _ (by omega) (by omega) z) (by omega)) yB25, hE2 _ _ (by rintro (z | z | z | z | z | z | z | z | z | z) <;> exact absurd (hJ.2.1 _ _ (by omega) (by omega) z) (by omega)) yB26, hE2 _ _ (by rintro (z | z | z | z | z | z | z | z | z | z) <;> exact absurd (hJ.2.1 _ _ (by omega) (by omega) z) (by omega)) yB27, hE2 _ _ (by rintro (z | z | z | z | z | z | z | z | z | z) <;> exact absurd (hJ.2.1 _ _ (by omega) (by omega) z) (by omega)) yB28, hE2 _ _ (by rintro (z | z | z | z | z | z | z | z | z | z) <;> exact absurd (hJ.2.1 _ _ (by omega) (by omega) z) (by omega)) yB29⟩, hR1, hvA, hvB⟩ (by omega) (by omega)
end OPS
