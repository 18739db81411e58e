def f_X5_tell_L18 (v : TVi) (n : TN) (sights_count : Nat) (kinds : Nat → Int32) (moons : Nat → Int32) (places : Nat → Int32) (values : Nat → Int32) : Nat → Nat → (Nat → Int64) → (Nat → Int64)
  | 0, k18, y_fits_18 => y_fits_18
  | r18 + 1, k18, y_fits_18 => f_X5_tell_L18 v n sights_count kinds moons places values r18 (k18 + 1) (vp_updL y_fits_18 k18 (if (nI k18 &&& (f_X2_there n v ^^^ (-1))) = 0 then (if f_X5_spoonsFit sights_count kinds moons places values (nI k18) (f_X2_there n v) = true then (1 : Int64) else (0 : Int64)) else (0 : Int64)))
def f_X5_tell_x1 (v : TVi) (n : TN) (sights_count : Nat) (kinds : Nat → Int32) (moons : Nat → Int32) (places : Nat → Int32) (values : Nat → Int32) (k70 : Nat) (y_ta_unseenWays_70 : Int64) (y_ta_seenHouses_70 : Int64) (k90 : Nat) : Int64 := (if (f_X5_look y_ta_unseenWays_70 y_ta_seenHouses_70 v n sights_count places values kinds moons (nI k70)).1 < 0 then (0 : Int64) else f_X5_ways_0 (gVi_people v) ((f_X5_look y_ta_unseenWays_70 y_ta_seenHouses_70 v n sights_count places values kinds moons (nI k70)).2.1) ((f_X5_look y_ta_unseenWays_70 y_ta_seenHouses_70 v n sights_count places values kinds moons (nI k70)).2.2.1) ((f_X5_look y_ta_unseenWays_70 y_ta_seenHouses_70 v n sights_count places values kinds moons (nI k70)).2.2.2) (nI k90) ((f_X5_look y_ta_unseenWays_70 y_ta_seenHouses_70 v n sights_count places values kinds moons (nI k70)).1))
def f_X5_tell_L90 (v : TVi) (n : TN) (sights_count : Nat) (kinds : Nat → Int32) (moons : Nat → Int32) (places : Nat → Int32) (values : Nat → Int32) (k70 : Nat) (y_ta_unseenWays_70 : Int64) (y_ta_seenHouses_70 : Int64) : Nat → Nat → (Nat → Int64) → (Nat → Int64)
  | 0, k90, y_fits_90 => y_fits_90
  | r90 + 1, k90, y_fits_90 => f_X5_tell_L90 v n sights_count kinds moons places values k70 y_ta_unseenWays_70 y_ta_seenHouses_70 r90 (k90 + 1) (if y_fits_90 k90 = 0 then y_fits_90 else vp_updL y_fits_90 k90 (y_fits_90 k90 * (f_X5_tell_x1 v n sights_count kinds moons places values k70 y_ta_unseenWays_70 y_ta_seenHouses_70 k90)))
def f_X5_tell_L70 (v : TVi) (n : TN) (sights_count : Nat) (kinds : Nat → Int32) (moons : Nat → Int32) (places : Nat → Int32) (values : Nat → Int32) : Nat → Nat → Int32 → Int64 → Int64 → (Nat → Int64) → Int32 × Int64 × Int64 × (Nat → Int64)
  | 0, k70, y_ta_away_70, y_ta_unseenWays_70, y_ta_seenHouses_70, y_fits_70 => (y_ta_away_70, y_ta_unseenWays_70, y_ta_seenHouses_70, y_fits_70)
  | r70 + 1, k70, y_ta_away_70, y_ta_unseenWays_70, y_ta_seenHouses_70, y_fits_70 => f_X5_tell_L70 v n sights_count kinds moons places values r70 (k70 + 1) ((f_X5_look y_ta_unseenWays_70 y_ta_seenHouses_70 v n sights_count places values kinds moons (nI k70)).2.1) ((f_X5_look y_ta_unseenWays_70 y_ta_seenHouses_70 v n sights_count places values kinds moons (nI k70)).2.2.1) ((f_X5_look y_ta_unseenWays_70 y_ta_seenHouses_70 v n sights_count places values kinds moons (nI k70)).2.2.2) (f_X5_tell_L90 v n sights_count kinds moons places values k70 y_ta_unseenWays_70 y_ta_seenHouses_70 64 0 y_fits_70)
def f_X5_tell (ta_away : Int32) (ta_unseenWays : Int64) (ta_seenHouses : Int64) (v : TVi) (n : TN) (sights_count : Nat) (fits : Nat → Int64) (kinds : Nat → Int32) (moons : Nat → Int32) (places : Nat → Int32) (values : Nat → Int32) : Nat × Int32 × Int64 × Int64 × (Nat → Int64) := (gVi_people v, (f_X5_tell_L70 v n sights_count kinds moons places values 3 0 ta_away ta_unseenWays ta_seenHouses (f_X5_tell_L18 v n sights_count kinds moons places values 64 0 fits)).1, (f_X5_tell_L70 v n sights_count kinds moons places values 3 0 ta_away ta_unseenWays ta_seenHouses (f_X5_tell_L18 v n sights_count kinds moons places values 64 0 fits)).2.1, (f_X5_tell_L70 v n sights_count kinds moons places values 3 0 ta_away ta_unseenWays ta_seenHouses (f_X5_tell_L18 v n sights_count kinds moons places values 64 0 fits)).2.2.1, (f_X5_tell_L70 v n sights_count kinds moons places values 3 0 ta_away ta_unseenWays ta_seenHouses (f_X5_tell_L18 v n sights_count kinds moons places values 64 0 fits)).2.2.2)
set_option maxHeartbeats 4000000 in
set_option maxRecDepth 100000 in
theorem c_X5_tell (g : GT) (w0 : Wd) (a_ta : Nat) (a_fits : Nat) (a_left : Nat) (a_needs : Nat) (a_v : Nat) (a_n : Nat) (a_sights : Nat) (a_kinds : Nat) (a_moons : Nat) (a_places : Nat) (a_values : Nat) (ta_people : Nat) (ta_away : Int32) (ta_unseenWays : Int64) (ta_seenHouses : Int64) (v : TVi) (n : TN) (sights_count : Nat) (fits : Nat → Int64) (kinds : Nat → Int32) (moons : Nat → Int32) (places : Nat → Int32) (values : Nat → Int32) (hvh : gVi_houses v ≤ 4) (hvp : gVi_people v ≤ 6) (hsc : sights_count ≤ 6) (h_ta : w0 a_ta = some (.inr (5, cTa a_fits a_left a_needs (ta_people, ta_away, ta_unseenWays, ta_seenHouses)))) (h_v : w0 a_v = some (.inr (7, cVi v))) (h_n : w0 a_n = some (.inr (2, cN n))) (h_sights : w0 a_sights = some (.inr (4, cSi a_kinds a_moons a_places a_values sights_count))) (h_fits : w0 a_fits = some (.inl (g.2.2.1 1, 64, .inr (.inl fits)))) (h_kinds : w0 a_kinds = some (.inl (g.2.2.1 0, 6, .inl kinds))) (h_moons : w0 a_moons = some (.inl (g.2.2.1 0, 6, .inl moons))) (h_places : w0 a_places = some (.inl (g.2.2.1 0, 6, .inl places))) (h_values : w0 a_values = some (.inl (g.2.2.1 0, 6, .inl values))) (ne_fits_kinds : ¬ a_fits = a_kinds) (ne_fits_moons : ¬ a_fits = a_moons) (ne_fits_places : ¬ a_fits = a_places) (ne_fits_values : ¬ a_fits = a_values) : CT g yX5_tell cX5_tell 9 none 7 210 0 0 w0 [.ref a_ta, .ref a_v, .ref a_n, .ref a_sights] (fun r w2 => r = none ∧ w2 a_ta = some (.inr (5, cTa a_fits a_left a_needs ((f_X5_tell ta_away ta_unseenWays ta_seenHouses v n sights_count fits kinds moons places values).1, (f_X5_tell ta_away ta_unseenWays ta_seenHouses v n sights_count fits kinds moons places values).2.1, (f_X5_tell ta_away ta_unseenWays ta_seenHouses v n sights_count fits kinds moons places values).2.2.1, (f_X5_tell ta_away ta_unseenWays ta_seenHouses v n sights_count fits kinds moons places values).2.2.2.1))) ∧ w2 a_fits = some (.inl (g.2.2.1 1, 64, .inr (.inl ((f_X5_tell ta_away ta_unseenWays ta_seenHouses v n sights_count fits kinds moons places values).2.2.2.2)))) ∧ wE (fun q => q = a_ta ∨ q = a_fits) w0 w2) := by
  refine CT.of (own := RX5) (by decide +kernel) rfl (Nat.le_of_ble_eq_true rfl) (fun X hC hR hI => ?_)
  show V g X 9 w0 0 0 0 [(0, .ref a_ta), (1, .ref a_v), (2, .ref a_n), (3, .ref a_sights)] []
  have hE : wE (fun q => q = a_ta ∨ q = a_fits) w0 w0 := wE.refl
  refine vv_aload_n hC 0 dX5_tell_0 rfl rfl ?_
  refine vv_aload_n hC 1 dX5_tell_1 rfl rfl ?_
  refine vv_getN (v := .int (nI (gVi_people v))) hC fl_X5_36 dX5_tell_2 h_v rfl ?_
  refine vv_put hC fp_X5_22 dX5_tell_5 h_ta rfl rfl (Nat.le_of_ble_eq_true rfl) (fun w1 t1 hs => ?_)
  have t1 : w1 a_ta = some (.inr (5, cTa a_fits a_left a_needs (gVi_people v, ta_away, ta_unseenWays, ta_seenHouses))) := t1.trans (congrArg (fun z => some (Sum.inr (5, z))) (eTa_people _ _ _ _ _ _ _ _))
  have h_v := hs _ _ (fw_oo h_v h_ta (by decide)) h_v
  have h_n := hs _ _ (fw_oo h_n h_ta (by decide)) h_n
  have h_sights := hs _ _ (fw_oo h_sights h_ta (by decide)) h_sights
  have h_fits := hs _ _ (fw_ao h_fits h_ta) h_fits
  have h_kinds := hs _ _ (fw_ao h_kinds h_ta) h_kinds
  have h_moons := hs _ _ (fw_ao h_moons h_ta) h_moons
  have h_places := hs _ _ (fw_ao h_places h_ta) h_places
  have h_values := hs _ _ (fw_ao h_values h_ta) h_values
  have h_ta := t1
  have hE := hE.trans (hs.mono (fun _ z => (Or.inl z)))
  refine vv_aload_n hC 2 dX5_tell_8 rfl rfl ?_
  refine vv_aload_n hC 1 dX5_tell_9 rfl rfl ?_
  refine vv_callV hC dX5_tell_10 md_X2_there lk_m_X5_39 lk_i_X2_there lk_s_X2_there h_n rfl (As := [.ref a_v]) (rest := []) (c_X2_there g w1 a_n a_v n v h_n h_v) rfl rfl (Nat.le_of_ble_eq_true rfl) ⟨by decide, by decide, by decide, by decide⟩ (fun r w9 hq => ?_)
  obtain ⟨rfl, rfl⟩ := hq
  show V g X 9 w1 0 0 13 [(0, .ref a_ta), (1, .ref a_v), (2, .ref a_n), (3, .ref a_sights)] [.int (f_X2_there n v)]
  refine vv_istore (lv2 := [(4, .int (f_X2_there n v)), (0, .ref a_ta), (1, .ref a_v), (2, .ref a_n), (3, .ref a_sights)]) hC dX5_tell_13 (by decide) rfl ?_
  refine vv_iconst (v := 0) hC dX5_tell_15 (by decide) ?_
  refine vv_istore (lv2 := [(5, .int 0), (4, .int (f_X2_there n v)), (0, .ref a_ta), (1, .ref a_v), (2, .ref a_n), (3, .ref a_sights)]) hC dX5_tell_16 (by decide) rfl ?_
  have hL8 : ∀ (r18 k18 : Nat) (y_fits_18 : Nat → Int64) (w2 : Wd) (out : (Nat → Int64)), k18 + r18 = 64 → out = f_X5_tell_L18 v n sights_count kinds moons places values r18 k18 y_fits_18 → w2 a_ta = some (.inr (5, cTa a_fits a_left a_needs (gVi_people v, ta_away, ta_unseenWays, ta_seenHouses))) → w2 a_v = some (.inr (7, cVi v)) → w2 a_n = some (.inr (2, cN n)) → w2 a_sights = some (.inr (4, cSi a_kinds a_moons a_places a_values sights_count)) → w2 a_fits = some (.inl (g.2.2.1 1, 64, .inr (.inl y_fits_18))) → w2 a_kinds = some (.inl (g.2.2.1 0, 6, .inl kinds)) → w2 a_moons = some (.inl (g.2.2.1 0, 6, .inl moons)) → w2 a_places = some (.inl (g.2.2.1 0, 6, .inl places)) → w2 a_values = some (.inl (g.2.2.1 0, 6, .inl values)) → wE (fun q => q = a_ta ∨ q = a_fits) w0 w2 → (∀ w7 : Wd, w7 a_ta = some (.inr (5, cTa a_fits a_left a_needs (gVi_people v, ta_away, ta_unseenWays, ta_seenHouses))) → w7 a_v = some (.inr (7, cVi v)) → w7 a_n = some (.inr (2, cN n)) → w7 a_sights = some (.inr (4, cSi a_kinds a_moons a_places a_values sights_count)) → w7 a_fits = some (.inl (g.2.2.1 1, 64, .inr (.inl out))) → w7 a_kinds = some (.inl (g.2.2.1 0, 6, .inl kinds)) → w7 a_moons = some (.inl (g.2.2.1 0, 6, .inl moons)) → w7 a_places = some (.inl (g.2.2.1 0, 6, .inl places)) → w7 a_values = some (.inl (g.2.2.1 0, 6, .inl values)) → wE (fun q => q = a_ta ∨ q = a_fits) w0 w7 → V g X 9 w7 0 0 67 [(0, .ref a_ta), (1, .ref a_v), (2, .ref a_n), (3, .ref a_sights), (4, .int (f_X2_there n v))] []) → V g X 9 w2 0 0 18 [(0, .ref a_ta), (1, .ref a_v), (2, .ref a_n), (3, .ref a_sights), (4, .int (f_X2_there n v)), (5, .int (nI k18))] [] := by
    intro r18
    induction r18 with
    | zero =>
      intro k18 y_fits_18 w2 out hb ho h_ta h_v h_n h_sights h_fits h_kinds h_moons h_places h_values hE hk
      refine vv_iload hC 5 dX5_tell_18 rfl ?_
      refine vv_aload_n hC 0 dX5_tell_20 rfl rfl ?_
      refine vv_get (v := .ref a_fits) hC fl_X5_9 dX5_tell_21 h_ta rfl ?_
      refine vv_alen_lald (v := nI 64) hC dX5_tell_24 h_fits rfl ?_
      refine vv_topi (64) (by decide) ?_
      refine vv_icmp_ge hC 67 dX5_tell_25 (by decide) (fun c => ?_) (fun c => False.elim (c ((nI_le_ (a := 64) (b := k18) (by omega) (by omega)).mpr (by omega))))
      refine vv_lv [0, 1, 2, 3, 4] rfl ?_
      have ho := ho.trans (by first | (simp only [f_X5_tell_L18]; done) | rfl | (simp only [f_X5_tell_L18]; rfl) : _ = y_fits_18)
      subst ho
      exact hk w2 h_ta h_v h_n h_sights h_fits h_kinds h_moons h_places h_values hE
    | succ r18 ih =>
      intro k18 y_fits_18 w2 out hb ho h_ta h_v h_n h_sights h_fits h_kinds h_moons h_places h_values hE hk
      refine vv_iload hC 5 dX5_tell_18 rfl ?_
      refine vv_aload_n hC 0 dX5_tell_20 rfl rfl ?_
      refine vv_get (v := .ref a_fits) hC fl_X5_9 dX5_tell_21 h_ta rfl ?_
      refine vv_alen_lald (v := nI 64) hC dX5_tell_24 h_fits rfl ?_
      refine vv_topi (64) (by decide) ?_
      refine vv_icmp_ge hC 67 dX5_tell_25 (by decide) (fun c => absurd ((nI_le_ (a := 64) (b := k18) (by omega) (by omega)).mp c) (by first | omega | decide)) (fun c => ?_)
      refine vv_aload_n hC 0 dX5_tell_28 rfl rfl ?_
      refine vv_get (v := .ref a_fits) hC fl_X5_9 dX5_tell_29 h_ta rfl ?_
      refine vv_iload hC 5 dX5_tell_32 rfl ?_
      refine vv_iload hC 5 dX5_tell_34 rfl ?_
      refine vv_iload hC 4 dX5_tell_36 rfl ?_
      refine vv_iconst (v := (-1)) hC dX5_tell_38 (by decide) ?_
      refine vv_ixor hC dX5_tell_39 ?_
      refine vv_iand hC dX5_tell_40 ?_
      have hJ4 : V g X 9 w2 0 0 60 [(0, .ref a_ta), (1, .ref a_v), (2, .ref a_n), (3, .ref a_sights), (4, .int (f_X2_there n v)), (5, .int (nI k18))] [.long (if (nI k18 &&& (f_X2_there n v ^^^ (-1))) = 0 then (if f_X5_spoonsFit sights_count kinds moons places values (nI k18) (f_X2_there n v) = true then (1 : Int64) else (0 : Int64)) else (0 : Int64)), .int (nI k18), .ref a_fits] := by
        refine vv_lastn (t := k18) hC dX5_tell_60 h_fits (by omega) (by decide) (fun w6 t1 hs => ?_)
        have t1 : w6 a_fits = some (.inl (g.2.2.1 1, 64, .inr (.inl (vp_updL y_fits_18 k18 (if (nI k18 &&& (f_X2_there n v ^^^ (-1))) = 0 then (if f_X5_spoonsFit sights_count kinds moons places values (nI k18) (f_X2_there n v) = true then (1 : Int64) else (0 : Int64)) else (0 : Int64)))))) := t1
        have h_ta := hs _ _ (fw_oa h_ta h_fits) h_ta
        have h_v := hs _ _ (fw_oa h_v h_fits) h_v
        have h_n := hs _ _ (fw_oa h_n h_fits) h_n
        have h_sights := hs _ _ (fw_oa h_sights h_fits) h_sights
        have h_kinds := hs _ _ (fun e => ne_fits_kinds e.symm) h_kinds
        have h_moons := hs _ _ (fun e => ne_fits_moons e.symm) h_moons
        have h_places := hs _ _ (fun e => ne_fits_places e.symm) h_places
        have h_values := hs _ _ (fun e => ne_fits_values e.symm) h_values
        have h_fits := t1
        have hE := hE.trans (hs.mono (fun _ z => (Or.inr z)))
        refine vv_iinc (lv2 := [(5, .int (nI (k18 + 1))), (0, .ref a_ta), (1, .ref a_v), (2, .ref a_n), (3, .ref a_sights), (4, .int (f_X2_there n v))]) hC 5 dX5_tell_61 rfl (nI_add k18 1) (by decide) rfl ?_
        refine vv_goto hC 18 dX5_tell_64 (by decide) ?_
        refine vv_lv [1, 2, 3, 4, 5, 0] rfl ?_
        exact ih (k18 + 1) (vp_updL y_fits_18 k18 (if (nI k18 &&& (f_X2_there n v ^^^ (-1))) = 0 then (if f_X5_spoonsFit sights_count kinds moons places values (nI k18) (f_X2_there n v) = true then (1 : Int64) else (0 : Int64)) else (0 : Int64))) w6 out (by omega) (ho.trans (by first | (simp only [f_X5_tell_L18]; done) | rfl | (simp only [f_X5_tell_L18]; rfl))) h_ta h_v h_n h_sights h_fits h_kinds h_moons h_places h_values hE hk
      refine vv_if_ne hC 59 dX5_tell_41 (by decide) (fun c3 => ?_) (fun c3 => ?_)
      · have c3 : ¬ ((nI k18 &&& (f_X2_there n v ^^^ (-1))) = 0) := c3
        refine vv_lconst (v := 0) hC dX5_tell_59 (by decide) ?_
        have hz := hJ4
        try simp only [if_neg c3] at hz
        first | exact hz | (simp only [if_neg c3]; exact hz)
      · have c3 : (nI k18 &&& (f_X2_there n v ^^^ (-1))) = 0 := c3
        refine vv_iload hC 5 dX5_tell_44 rfl ?_
        refine vv_iload hC 4 dX5_tell_46 rfl ?_
        refine vv_aload_n hC 3 dX5_tell_48 rfl rfl ?_
        refine vv_callS hC dX5_tell_49 md_X5_spoonsFit lk_m_X5_45 lk_t_X5_spoonsFit (As := [.int (nI k18), .int (f_X2_there n v), .ref a_sights]) (rest := [.int (nI k18), .ref a_fits]) (c_X5_spoonsFit g w2 a_sights a_kinds a_moons a_places a_values sights_count kinds moons places values (nI k18) (f_X2_there n v) (by omega) h_sights h_kinds h_moons h_places h_values) rfl rfl (Nat.le_of_ble_eq_true rfl) ⟨by decide, by decide, by decide, by decide⟩ (fun r w9 hq => ?_)
        obtain ⟨rfl, rfl⟩ := hq
        show V g X 9 w2 0 0 52 [(0, .ref a_ta), (1, .ref a_v), (2, .ref a_n), (3, .ref a_sights), (4, .int (f_X2_there n v)), (5, .int (nI k18))] [.int (bI (f_X5_spoonsFit sights_count kinds moons places values (nI k18) (f_X2_there n v))), .int (nI k18), .ref a_fits]
        refine vv_if_eq hC 59 dX5_tell_52 (by decide) (fun c5 => ?_) (fun c5 => ?_)
        · have c5 : ¬ (f_X5_spoonsFit sights_count kinds moons places values (nI k18) (f_X2_there n v) = true) := bI_f c5
          refine vv_lconst (v := 0) hC dX5_tell_59 (by decide) ?_
          have hz := hJ4
          try simp only [if_pos c3, if_neg c5] at hz
          first | exact hz | (simp only [if_pos c3, if_neg c5]; exact hz)
        · have c5 : f_X5_spoonsFit sights_count kinds moons places values (nI k18) (f_X2_there n v) = true := bI_t c5
          refine vv_lconst (v := 1) hC dX5_tell_55 (by decide) ?_
          refine vv_goto hC 60 dX5_tell_56 (by decide) ?_
          have hz := hJ4
          try simp only [if_pos c3, if_pos c5] at hz
          first | exact hz | (simp only [if_pos c3, if_pos c5]; exact hz)
  refine vv_lv [2, 3, 4, 5, 1, 0] rfl ?_
  refine hL8 64 0 fits w1 (f_X5_tell_L18 v n sights_count kinds moons places values 64 0 fits) (by omega) rfl h_ta h_v h_n h_sights h_fits h_kinds h_moons h_places h_values hE ?_
  intro w7 h_ta h_v h_n h_sights h_fits h_kinds h_moons h_places h_values hE
  refine vv_iconst (v := 0) hC dX5_tell_67 (by decide) ?_
  refine vv_istore (lv2 := [(5, .int 0), (0, .ref a_ta), (1, .ref a_v), (2, .ref a_n), (3, .ref a_sights), (4, .int (f_X2_there n v))]) hC dX5_tell_68 (by decide) rfl ?_
  have hL21 : ∀ (r70 k70 : Nat) (y_ta_away_70 : Int32) (y_ta_unseenWays_70 : Int64) (y_ta_seenHouses_70 : Int64) (y_fits_70 : Nat → Int64) (w9 : Wd) (out : Int32 × Int64 × Int64 × (Nat → Int64)), k70 + r70 = 3 → out = f_X5_tell_L70 v n sights_count kinds moons places values r70 k70 y_ta_away_70 y_ta_unseenWays_70 y_ta_seenHouses_70 y_fits_70 → w9 a_ta = some (.inr (5, cTa a_fits a_left a_needs (gVi_people v, y_ta_away_70, y_ta_unseenWays_70, y_ta_seenHouses_70))) → w9 a_v = some (.inr (7, cVi v)) → w9 a_n = some (.inr (2, cN n)) → w9 a_sights = some (.inr (4, cSi a_kinds a_moons a_places a_values sights_count)) → w9 a_fits = some (.inl (g.2.2.1 1, 64, .inr (.inl y_fits_70))) → w9 a_kinds = some (.inl (g.2.2.1 0, 6, .inl kinds)) → w9 a_moons = some (.inl (g.2.2.1 0, 6, .inl moons)) → w9 a_places = some (.inl (g.2.2.1 0, 6, .inl places)) → w9 a_values = some (.inl (g.2.2.1 0, 6, .inl values)) → wE (fun q => q = a_ta ∨ q = a_fits) w0 w9 → (∀ w20 : Wd, w20 a_ta = some (.inr (5, cTa a_fits a_left a_needs (gVi_people v, out.1, out.2.1, out.2.2.1))) → w20 a_v = some (.inr (7, cVi v)) → w20 a_n = some (.inr (2, cN n)) → w20 a_sights = some (.inr (4, cSi a_kinds a_moons a_places a_values sights_count)) → w20 a_fits = some (.inl (g.2.2.1 1, 64, .inr (.inl out.2.2.2))) → w20 a_kinds = some (.inl (g.2.2.1 0, 6, .inl kinds)) → w20 a_moons = some (.inl (g.2.2.1 0, 6, .inl moons)) → w20 a_places = some (.inl (g.2.2.1 0, 6, .inl places)) → w20 a_values = some (.inl (g.2.2.1 0, 6, .inl values)) → wE (fun q => q = a_ta ∨ q = a_fits) w0 w20 → V g X 9 w20 0 0 154 [(0, .ref a_ta), (1, .ref a_v), (2, .ref a_n), (3, .ref a_sights), (4, .int (f_X2_there n v))] []) → V g X 9 w9 0 0 70 [(0, .ref a_ta), (1, .ref a_v), (2, .ref a_n), (3, .ref a_sights), (4, .int (f_X2_there n v)), (5, .int (nI k70))] [] := by
    intro r70
    induction r70 with
    | zero =>
      intro k70 y_ta_away_70 y_ta_unseenWays_70 y_ta_seenHouses_70 y_fits_70 w9 out hb ho h_ta h_v h_n h_sights h_fits h_kinds h_moons h_places h_values hE hk
      refine vv_iload hC 5 dX5_tell_70 rfl ?_
      refine vv_iconst (v := 3) hC dX5_tell_72 (by decide) ?_
      refine vv_icmp_ge hC 154 dX5_tell_73 (by decide) (fun c => ?_) (fun c => False.elim (c ((nI_le_ (a := 3) (b := k70) (by omega) (by omega)).mpr (by omega))))
      refine vv_lv [0, 1, 2, 3, 4] rfl ?_
      have ho := ho.trans (by first | (simp only [f_X5_tell_L70]; done) | rfl | (simp only [f_X5_tell_L70]; rfl) : _ = (y_ta_away_70, y_ta_unseenWays_70, y_ta_seenHouses_70, y_fits_70))
      subst ho
      exact hk w9 h_ta h_v h_n h_sights h_fits h_kinds h_moons h_places h_values hE
    | succ r70 ih =>
      intro k70 y_ta_away_70 y_ta_unseenWays_70 y_ta_seenHouses_70 y_fits_70 w9 out hb ho h_ta h_v h_n h_sights h_fits h_kinds h_moons h_places h_values hE hk
      refine vv_iload hC 5 dX5_tell_70 rfl ?_
      refine vv_iconst (v := 3) hC dX5_tell_72 (by decide) ?_
      refine vv_icmp_ge hC 154 dX5_tell_73 (by decide) (fun c => absurd ((nI_le_ (a := 3) (b := k70) (by omega) (by omega)).mp c) (by first | omega | decide)) (fun c => ?_)
      refine vv_aload_n hC 0 dX5_tell_76 rfl rfl ?_
      refine vv_aload_n hC 1 dX5_tell_77 rfl rfl ?_
      refine vv_aload_n hC 2 dX5_tell_78 rfl rfl ?_
      refine vv_aload_n hC 3 dX5_tell_79 rfl rfl ?_
      refine vv_iload hC 5 dX5_tell_80 rfl ?_
      refine vv_callV hC dX5_tell_82 md_X5_look lk_m_X5_49 lk_i_X5_look lk_s_X5_look h_ta rfl (As := [.ref a_v, .ref a_n, .ref a_sights, .int (nI k70)]) (rest := []) (c_X5_look g w9 a_ta a_fits a_left a_needs a_v a_n a_sights a_kinds a_moons a_places a_values (gVi_people v) y_ta_away_70 y_ta_unseenWays_70 y_ta_seenHouses_70 v n sights_count places values kinds moons (nI k70) (by omega) (by omega) (by omega) h_ta h_v h_n h_sights h_places h_values h_kinds h_moons) rfl rfl (Nat.le_of_ble_eq_true rfl) ⟨by decide, by decide, by decide, by decide⟩ (fun r w9 hq => ?_)
      obtain ⟨rfl, t1, hs⟩ := hq
      obtain ⟨w10, rfl⟩ : ∃ z, z = w9 := ⟨_, rfl⟩
      have h_v := hs _ _ (fw_oo h_v h_ta (by decide)) h_v
      have h_n := hs _ _ (fw_oo h_n h_ta (by decide)) h_n
      have h_sights := hs _ _ (fw_oo h_sights h_ta (by decide)) h_sights
      have h_fits := hs _ _ (fw_ao h_fits h_ta) h_fits
      have h_kinds := hs _ _ (fw_ao h_kinds h_ta) h_kinds
      have h_moons := hs _ _ (fw_ao h_moons h_ta) h_moons
      have h_places := hs _ _ (fw_ao h_places h_ta) h_places
      have h_values := hs _ _ (fw_ao h_values h_ta) h_values
      have h_ta := t1
      have hE := hE.trans (hs.mono (fun _ z => (Or.inl z)))
      show V g X 9 w10 0 0 85 [(0, .ref a_ta), (1, .ref a_v), (2, .ref a_n), (3, .ref a_sights), (4, .int (f_X2_there n v)), (5, .int (nI k70))] [.long ((f_X5_look y_ta_unseenWays_70 y_ta_seenHouses_70 v n sights_count places values kinds moons (nI k70)).1)]
      refine vv_lstore (lv2 := [(6, .long ((f_X5_look y_ta_unseenWays_70 y_ta_seenHouses_70 v n sights_count places values kinds moons (nI k70)).1)), (0, .ref a_ta), (1, .ref a_v), (2, .ref a_n), (3, .ref a_sights), (4, .int (f_X2_there n v)), (5, .int (nI k70))]) hC dX5_tell_85 (by decide) rfl ?_
      refine vv_iconst (v := 0) hC dX5_tell_87 (by decide) ?_
      refine vv_istore (lv2 := [(8, .int 0), (6, .long ((f_X5_look y_ta_unseenWays_70 y_ta_seenHouses_70 v n sights_count places values kinds moons (nI k70)).1)), (0, .ref a_ta), (1, .ref a_v), (2, .ref a_n), (3, .ref a_sights), (4, .int (f_X2_there n v)), (5, .int (nI k70))]) hC dX5_tell_88 (by decide) rfl ?_
      have hL19 : ∀ (r90 k90 : Nat) (y_fits_90 : Nat → Int64) (w11 : Wd) (out : (Nat → Int64)), k90 + r90 = 64 → out = f_X5_tell_L90 v n sights_count kinds moons places values k70 y_ta_unseenWays_70 y_ta_seenHouses_70 r90 k90 y_fits_90 → w11 a_ta = some (.inr (5, cTa a_fits a_left a_needs (gVi_people v, (f_X5_look y_ta_unseenWays_70 y_ta_seenHouses_70 v n sights_count places values kinds moons (nI k70)).2.1, (f_X5_look y_ta_unseenWays_70 y_ta_seenHouses_70 v n sights_count places values kinds moons (nI k70)).2.2.1, (f_X5_look y_ta_unseenWays_70 y_ta_seenHouses_70 v n sights_count places values kinds moons (nI k70)).2.2.2))) → w11 a_v = some (.inr (7, cVi v)) → w11 a_n = some (.inr (2, cN n)) → w11 a_sights = some (.inr (4, cSi a_kinds a_moons a_places a_values sights_count)) → w11 a_fits = some (.inl (g.2.2.1 1, 64, .inr (.inl y_fits_90))) → w11 a_kinds = some (.inl (g.2.2.1 0, 6, .inl kinds)) → w11 a_moons = some (.inl (g.2.2.1 0, 6, .inl moons)) → w11 a_places = some (.inl (g.2.2.1 0, 6, .inl places)) → w11 a_values = some (.inl (g.2.2.1 0, 6, .inl values)) → wE (fun q => q = a_ta ∨ q = a_fits) w0 w11 → (∀ w18 : Wd, w18 a_ta = some (.inr (5, cTa a_fits a_left a_needs (gVi_people v, (f_X5_look y_ta_unseenWays_70 y_ta_seenHouses_70 v n sights_count places values kinds moons (nI k70)).2.1, (f_X5_look y_ta_unseenWays_70 y_ta_seenHouses_70 v n sights_count places values kinds moons (nI k70)).2.2.1, (f_X5_look y_ta_unseenWays_70 y_ta_seenHouses_70 v n sights_count places values kinds moons (nI k70)).2.2.2))) → w18 a_v = some (.inr (7, cVi v)) → w18 a_n = some (.inr (2, cN n)) → w18 a_sights = some (.inr (4, cSi a_kinds a_moons a_places a_values sights_count)) → w18 a_fits = some (.inl (g.2.2.1 1, 64, .inr (.inl out))) → w18 a_kinds = some (.inl (g.2.2.1 0, 6, .inl kinds)) → w18 a_moons = some (.inl (g.2.2.1 0, 6, .inl moons)) → w18 a_places = some (.inl (g.2.2.1 0, 6, .inl places)) → w18 a_values = some (.inl (g.2.2.1 0, 6, .inl values)) → wE (fun q => q = a_ta ∨ q = a_fits) w0 w18 → V g X 9 w18 0 0 148 [(0, .ref a_ta), (1, .ref a_v), (2, .ref a_n), (3, .ref a_sights), (4, .int (f_X2_there n v)), (5, .int (nI k70)), (6, .long ((f_X5_look y_ta_unseenWays_70 y_ta_seenHouses_70 v n sights_count places values kinds moons (nI k70)).1))] []) → V g X 9 w11 0 0 90 [(0, .ref a_ta), (1, .ref a_v), (2, .ref a_n), (3, .ref a_sights), (4, .int (f_X2_there n v)), (5, .int (nI k70)), (6, .long ((f_X5_look y_ta_unseenWays_70 y_ta_seenHouses_70 v n sights_count places values kinds moons (nI k70)).1)), (8, .int (nI k90))] [] := by
        intro r90
        induction r90 with
        | zero =>
          intro k90 y_fits_90 w11 out hb ho h_ta h_v h_n h_sights h_fits h_kinds h_moons h_places h_values hE hk
          refine vv_iload hC 7 dX5_tell_90 rfl ?_
          refine vv_aload_n hC 0 dX5_tell_92 rfl rfl ?_
          refine vv_get (v := .ref a_fits) hC fl_X5_9 dX5_tell_93 h_ta rfl ?_
          refine vv_alen_lald (v := nI 64) hC dX5_tell_96 h_fits rfl ?_
          refine vv_topi (64) (by decide) ?_
          refine vv_icmp_ge hC 148 dX5_tell_97 (by decide) (fun c => ?_) (fun c => False.elim (c ((nI_le_ (a := 64) (b := k90) (by omega) (by omega)).mpr (by omega))))
          refine vv_lv [0, 1, 2, 3, 4, 5, 6] rfl ?_
          have ho := ho.trans (by first | (simp only [f_X5_tell_L90]; done) | rfl | (simp only [f_X5_tell_L90]; rfl) : _ = y_fits_90)
          subst ho
          exact hk w11 h_ta h_v h_n h_sights h_fits h_kinds h_moons h_places h_values hE
        | succ r90 ih =>
          intro k90 y_fits_90 w11 out hb ho h_ta h_v h_n h_sights h_fits h_kinds h_moons h_places h_values hE hk
          refine vv_iload hC 7 dX5_tell_90 rfl ?_
          refine vv_aload_n hC 0 dX5_tell_92 rfl rfl ?_
          refine vv_get (v := .ref a_fits) hC fl_X5_9 dX5_tell_93 h_ta rfl ?_
          refine vv_alen_lald (v := nI 64) hC dX5_tell_96 h_fits rfl ?_
          refine vv_topi (64) (by decide) ?_
          refine vv_icmp_ge hC 148 dX5_tell_97 (by decide) (fun c => absurd ((nI_le_ (a := 64) (b := k90) (by omega) (by omega)).mp c) (by first | omega | decide)) (fun c => ?_)
          refine vv_aload_n hC 0 dX5_tell_100 rfl rfl ?_
          refine vv_get (v := .ref a_fits) hC fl_X5_9 dX5_tell_101 h_ta rfl ?_
          refine vv_iload hC 7 dX5_tell_104 rfl ?_
          refine vv_laldn (t := k90) hC dX5_tell_106 h_fits (by omega) (by decide) ?_
          refine vv_lconst (v := 0) hC dX5_tell_107 (by decide) ?_
          refine vv_lcmp hC dX5_tell_108 ?_
          have hJ13 : ∀ w17 : Wd, w17 a_ta = some (.inr (5, cTa a_fits a_left a_needs (gVi_people v, (f_X5_look y_ta_unseenWays_70 y_ta_seenHouses_70 v n sights_count places values kinds moons (nI k70)).2.1, (f_X5_look y_ta_unseenWays_70 y_ta_seenHouses_70 v n sights_count places values kinds moons (nI k70)).2.2.1, (f_X5_look y_ta_unseenWays_70 y_ta_seenHouses_70 v n sights_count places values kinds moons (nI k70)).2.2.2))) → w17 a_v = some (.inr (7, cVi v)) → w17 a_n = some (.inr (2, cN n)) → w17 a_sights = some (.inr (4, cSi a_kinds a_moons a_places a_values sights_count)) → w17 a_fits = some (.inl (g.2.2.1 1, 64, .inr (.inl (if y_fits_90 k90 = 0 then y_fits_90 else vp_updL y_fits_90 k90 (y_fits_90 k90 * (f_X5_tell_x1 v n sights_count kinds moons places values k70 y_ta_unseenWays_70 y_ta_seenHouses_70 k90)))))) → w17 a_kinds = some (.inl (g.2.2.1 0, 6, .inl kinds)) → w17 a_moons = some (.inl (g.2.2.1 0, 6, .inl moons)) → w17 a_places = some (.inl (g.2.2.1 0, 6, .inl places)) → w17 a_values = some (.inl (g.2.2.1 0, 6, .inl values)) → wE (fun q => q = a_ta ∨ q = a_fits) w0 w17 → V g X 9 w17 0 0 142 [(0, .ref a_ta), (1, .ref a_v), (2, .ref a_n), (3, .ref a_sights), (4, .int (f_X2_there n v)), (5, .int (nI k70)), (6, .long ((f_X5_look y_ta_unseenWays_70 y_ta_seenHouses_70 v n sights_count places values kinds moons (nI k70)).1)), (8, .int (nI k90))] [] := by
            intro w17 h_ta h_v h_n h_sights h_fits h_kinds h_moons h_places h_values hE
            refine vv_iinc (lv2 := [(8, .int (nI (k90 + 1))), (0, .ref a_ta), (1, .ref a_v), (2, .ref a_n), (3, .ref a_sights), (4, .int (f_X2_there n v)), (5, .int (nI k70)), (6, .long ((f_X5_look y_ta_unseenWays_70 y_ta_seenHouses_70 v n sights_count places values kinds moons (nI k70)).1))]) hC 7 dX5_tell_142 rfl (nI_add k90 1) (by decide) rfl ?_
            refine vv_goto hC 90 dX5_tell_145 (by decide) ?_
            refine vv_lv [1, 2, 3, 4, 5, 6, 7, 0] rfl ?_
            exact ih (k90 + 1) (if y_fits_90 k90 = 0 then y_fits_90 else vp_updL y_fits_90 k90 (y_fits_90 k90 * (f_X5_tell_x1 v n sights_count kinds moons places values k70 y_ta_unseenWays_70 y_ta_seenHouses_70 k90))) w17 out (by omega) (ho.trans (by first | (simp only [f_X5_tell_L90]; done) | rfl | (simp only [f_X5_tell_L90]; rfl))) h_ta h_v h_n h_sights h_fits h_kinds h_moons h_places h_values hE hk
          refine vv_if_eq hC 142 dX5_tell_109 (by decide) (fun c12 => ?_) (fun c12 => ?_)
          · have c12 : y_fits_90 k90 = 0 := lc_eq c12
            have hz := hJ13 w11
            try simp only [if_pos c12] at hz
            first | exact hz h_ta h_v h_n h_sights h_fits h_kinds h_moons h_places h_values hE | (simp only [if_pos c12]; exact hz h_ta h_v h_n h_sights h_fits h_kinds h_moons h_places h_values hE)
          · have c12 : ¬ (y_fits_90 k90 = 0) := lc_ne c12
            refine vv_aload_n hC 0 dX5_tell_112 rfl rfl ?_
            refine vv_get (v := .ref a_fits) hC fl_X5_9 dX5_tell_113 h_ta rfl ?_
            refine vv_iload hC 7 dX5_tell_116 rfl ?_
            refine vv_dup2_11 hC dX5_tell_118 rfl rfl ?_
            refine vv_laldn (t := k90) hC dX5_tell_119 h_fits (by omega) (by decide) ?_
            refine vv_lload hC 6 dX5_tell_120 rfl ?_
            refine vv_lconst (v := 0) hC dX5_tell_122 (by decide) ?_
            refine vv_lcmp hC dX5_tell_123 ?_
            have hJ15 : V g X 9 w11 0 0 140 [(0, .ref a_ta), (1, .ref a_v), (2, .ref a_n), (3, .ref a_sights), (4, .int (f_X2_there n v)), (5, .int (nI k70)), (6, .long ((f_X5_look y_ta_unseenWays_70 y_ta_seenHouses_70 v n sights_count places values kinds moons (nI k70)).1)), (8, .int (nI k90))] [.long (f_X5_tell_x1 v n sights_count kinds moons places values k70 y_ta_unseenWays_70 y_ta_seenHouses_70 k90), .long (y_fits_90 k90), .int (nI k90), .ref a_fits] := by
              refine vv_lmul hC dX5_tell_140 ?_
              refine vv_lastn (t := k90) hC dX5_tell_141 h_fits (by omega) (by decide) (fun w16 t1 hs => ?_)
              have t1 : w16 a_fits = some (.inl (g.2.2.1 1, 64, .inr (.inl (vp_updL y_fits_90 k90 (y_fits_90 k90 * (f_X5_tell_x1 v n sights_count kinds moons places values k70 y_ta_unseenWays_70 y_ta_seenHouses_70 k90)))))) := t1
              have h_ta := hs _ _ (fw_oa h_ta h_fits) h_ta
              have h_v := hs _ _ (fw_oa h_v h_fits) h_v
              have h_n := hs _ _ (fw_oa h_n h_fits) h_n
              have h_sights := hs _ _ (fw_oa h_sights h_fits) h_sights
              have h_kinds := hs _ _ (fun e => ne_fits_kinds e.symm) h_kinds
              have h_moons := hs _ _ (fun e => ne_fits_moons e.symm) h_moons
              have h_places := hs _ _ (fun e => ne_fits_places e.symm) h_places
              have h_values := hs _ _ (fun e => ne_fits_values e.symm) h_values
              have h_fits := t1
              have hE := hE.trans (hs.mono (fun _ z => (Or.inr z)))
              have hz := hJ13 w16
              try simp only [if_neg c12] at hz
              first | exact hz h_ta h_v h_n h_sights h_fits h_kinds h_moons h_places h_values hE | (simp only [if_neg c12]; exact hz h_ta h_v h_n h_sights h_fits h_kinds h_moons h_places h_values hE)
            refine vv_if_ge hC 131 dX5_tell_124 (by decide) (fun c14 => ?_) (fun c14 => ?_)
            · have c14 : ¬ ((f_X5_look y_ta_unseenWays_70 y_ta_seenHouses_70 v n sights_count places values kinds moons (nI k70)).1 < 0) := lc_ge c14
              refine vv_aload_n hC 0 dX5_tell_131 rfl rfl ?_
              refine vv_iload hC 7 dX5_tell_132 rfl ?_
              refine vv_iconst (v := 0) hC dX5_tell_134 (by decide) ?_
              refine vv_lload hC 6 dX5_tell_135 rfl ?_
              refine vv_callV hC dX5_tell_137 md_X5_ways lk_m_X5_53 lk_i_X5_ways lk_s_X5_ways h_ta rfl (As := [.int (nI k90), .int 0, .long ((f_X5_look y_ta_unseenWays_70 y_ta_seenHouses_70 v n sights_count places values kinds moons (nI k70)).1)]) (rest := [.long (y_fits_90 k90), .int (nI k90), .ref a_fits]) (c_X5_ways_0 g w11 a_ta a_fits a_left a_needs (gVi_people v) ((f_X5_look y_ta_unseenWays_70 y_ta_seenHouses_70 v n sights_count places values kinds moons (nI k70)).2.1) ((f_X5_look y_ta_unseenWays_70 y_ta_seenHouses_70 v n sights_count places values kinds moons (nI k70)).2.2.1) ((f_X5_look y_ta_unseenWays_70 y_ta_seenHouses_70 v n sights_count places values kinds moons (nI k70)).2.2.2) (nI k90) ((f_X5_look y_ta_unseenWays_70 y_ta_seenHouses_70 v n sights_count places values kinds moons (nI k70)).1) (by omega) h_ta) rfl rfl (Nat.le_of_ble_eq_true rfl) ⟨by decide, by decide, by decide, by decide⟩ (fun r w9 hq => ?_)
              obtain ⟨rfl, rfl⟩ := hq
              show V g X 9 w11 0 0 140 [(0, .ref a_ta), (1, .ref a_v), (2, .ref a_n), (3, .ref a_sights), (4, .int (f_X2_there n v)), (5, .int (nI k70)), (6, .long ((f_X5_look y_ta_unseenWays_70 y_ta_seenHouses_70 v n sights_count places values kinds moons (nI k70)).1)), (8, .int (nI k90))] [.long (f_X5_ways_0 (gVi_people v) ((f_X5_look y_ta_unseenWays_70 y_ta_seenHouses_70 v n sights_count places values kinds moons (nI k70)).2.1) ((f_X5_look y_ta_unseenWays_70 y_ta_seenHouses_70 v n sights_count places values kinds moons (nI k70)).2.2.1) ((f_X5_look y_ta_unseenWays_70 y_ta_seenHouses_70 v n sights_count places values kinds moons (nI k70)).2.2.2) (nI k90) ((f_X5_look y_ta_unseenWays_70 y_ta_seenHouses_70 v n sights_count places values kinds moons (nI k70)).1)), .long (y_fits_90 k90), .int (nI k90), .ref a_fits]
              have hz := hJ15
              try simp only [f_X5_tell_x1, if_neg c14] at hz
              first | exact hz | (simp only [f_X5_tell_x1, if_neg c14]; exact hz)
            · have c14 : (f_X5_look y_ta_unseenWays_70 y_ta_seenHouses_70 v n sights_count places values kinds moons (nI k70)).1 < 0 := lc_nge c14
              refine vv_lconst (v := 0) hC dX5_tell_127 (by decide) ?_
              refine vv_goto hC 140 dX5_tell_128 (by decide) ?_
              have hz := hJ15
              try simp only [f_X5_tell_x1, if_pos c14] at hz
              first | exact hz | (simp only [f_X5_tell_x1, if_pos c14]; exact hz)
      refine vv_lv [2, 3, 4, 5, 6, 7, 1, 0] rfl ?_
      refine hL19 64 0 y_fits_70 w10 (f_X5_tell_L90 v n sights_count kinds moons places values k70 y_ta_unseenWays_70 y_ta_seenHouses_70 64 0 y_fits_70) (by omega) rfl h_ta h_v h_n h_sights h_fits h_kinds h_moons h_places h_values hE ?_
      intro w18 h_ta h_v h_n h_sights h_fits h_kinds h_moons h_places h_values hE
      refine vv_iinc (lv2 := [(5, .int (nI (k70 + 1))), (0, .ref a_ta), (1, .ref a_v), (2, .ref a_n), (3, .ref a_sights), (4, .int (f_X2_there n v)), (6, .long ((f_X5_look y_ta_unseenWays_70 y_ta_seenHouses_70 v n sights_count places values kinds moons (nI k70)).1))]) hC 5 dX5_tell_148 rfl (nI_add k70 1) (by decide) rfl ?_
      refine vv_goto hC 70 dX5_tell_151 (by decide) ?_
      refine vv_lv [1, 2, 3, 4, 5, 0] rfl ?_
      exact ih (k70 + 1) ((f_X5_look y_ta_unseenWays_70 y_ta_seenHouses_70 v n sights_count places values kinds moons (nI k70)).2.1) ((f_X5_look y_ta_unseenWays_70 y_ta_seenHouses_70 v n sights_count places values kinds moons (nI k70)).2.2.1) ((f_X5_look y_ta_unseenWays_70 y_ta_seenHouses_70 v n sights_count places values kinds moons (nI k70)).2.2.2) (f_X5_tell_L90 v n sights_count kinds moons places values k70 y_ta_unseenWays_70 y_ta_seenHouses_70 64 0 y_fits_70) w18 out (by omega) (ho.trans (by first | (simp only [f_X5_tell_L70]; done) | rfl | (simp only [f_X5_tell_L70]; rfl))) h_ta h_v h_n h_sights h_fits h_kinds h_moons h_places h_values hE hk
  refine vv_lv [1, 2, 3, 4, 5, 0] rfl ?_
  refine hL21 3 0 ta_away ta_unseenWays ta_seenHouses (f_X5_tell_L18 v n sights_count kinds moons places values 64 0 fits) w7 (f_X5_tell_L70 v n sights_count kinds moons places values 3 0 ta_away ta_unseenWays ta_seenHouses (f_X5_tell_L18 v n sights_count kinds moons places values 64 0 fits)) (by omega) rfl h_ta h_v h_n h_sights h_fits h_kinds h_moons h_places h_values hE ?_
  intro w20 h_ta h_v h_n h_sights h_fits h_kinds h_moons h_places h_values hE
  have hf : (f_X5_tell ta_away ta_unseenWays ta_seenHouses v n sights_count fits kinds moons places values) = (gVi_people v, (f_X5_tell_L70 v n sights_count kinds moons places values 3 0 ta_away ta_unseenWays ta_seenHouses (f_X5_tell_L18 v n sights_count kinds moons places values 64 0 fits)).1, (f_X5_tell_L70 v n sights_count kinds moons places values 3 0 ta_away ta_unseenWays ta_seenHouses (f_X5_tell_L18 v n sights_count kinds moons places values 64 0 fits)).2.1, (f_X5_tell_L70 v n sights_count kinds moons places values 3 0 ta_away ta_unseenWays ta_seenHouses (f_X5_tell_L18 v n sights_count kinds moons places values 64 0 fits)).2.2.1, (f_X5_tell_L70 v n sights_count kinds moons places values 3 0 ta_away ta_unseenWays ta_seenHouses (f_X5_tell_L18 v n sights_count kinds moons places values 64 0 fits)).2.2.2) := by first | (simp only [f_X5_tell]; done) | rfl | (simp only [f_X5_tell]; rfl)
  refine vv_vret hC hR rfl dX5_tell_154 (by omega) (by omega) ?_
  rw [hf]
  try dsimp only
  exact ⟨rfl, h_ta, h_fits, hE⟩
