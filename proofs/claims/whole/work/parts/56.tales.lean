def f_X5_spoonsFit_L2 (kinds : Nat → Int32) (moons : Nat → Int32) (places : Nat → Int32) (values : Nat → Int32) (p0 : Int32) (p1 : Int32) : Nat → Nat → Bool
  | 0, k2 => true
  | r2 + 1, k2 => (if (if f_X4_isOf kinds moons (nI k2) 2 0 = true then (if f_X8_has p1 (f_X4_place places (nI k2)) = true then true else false) else false) = true then (if bI (f_X8_has p0 (f_X4_place places (nI k2))) = bI (if f_X4_value values (nI k2) = 1 then true else false) then false else f_X5_spoonsFit_L2 kinds moons places values p0 p1 r2 (k2 + 1)) else f_X5_spoonsFit_L2 kinds moons places values p0 p1 r2 (k2 + 1))
def f_X5_spoonsFit (sights_count : Nat) (kinds : Nat → Int32) (moons : Nat → Int32) (places : Nat → Int32) (values : Nat → Int32) (p0 : Int32) (p1 : Int32) : Bool := f_X5_spoonsFit_L2 kinds moons places values p0 p1 sights_count 0
set_option maxHeartbeats 4000000 in
set_option maxRecDepth 100000 in
theorem c_X5_spoonsFit (g : GT) (w0 : Wd) (a_sights : Nat) (a_kinds : Nat) (a_moons : Nat) (a_places : Nat) (a_values : Nat) (sights_count : Nat) (kinds : Nat → Int32) (moons : Nat → Int32) (places : Nat → Int32) (values : Nat → Int32) (p0 : Int32) (p1 : Int32) (hsc : sights_count ≤ 6) (h_sights : w0 a_sights = some (.inr (4, cSi a_kinds a_moons a_places a_values sights_count))) (h_kinds : w0 a_kinds = some (.inl (g.2.2.1 0, 6, .inl kinds))) (h_moons : w0 a_moons = some (.inl (g.2.2.1 0, 6, .inl moons))) (h_places : w0 a_places = some (.inl (g.2.2.1 0, 6, .inl places))) (h_values : w0 a_values = some (.inl (g.2.2.1 0, 6, .inl values))) : CT g yX5_spoonsFit cX5_spoonsFit 5 (some .boolean) 2 44 0 0 w0 [.int p0, .int p1, .ref a_sights] (fun r w2 => r = some (.int (bI (f_X5_spoonsFit sights_count kinds moons places values p0 p1))) ∧ w0 = w2) := by
  refine CT.of (own := RX5) (by decide +kernel) rfl (Nat.le_of_ble_eq_true rfl) (fun X hC hR hI => ?_)
  show V g X 5 w0 0 0 0 [(0, .int p0), (1, .int p1), (2, .ref a_sights)] []
  refine vv_iconst (v := 0) hC dX5_spoonsFit_0 (by decide) ?_
  refine vv_istore_n (lv2 := [(3, .int 0), (0, .int p0), (1, .int p1), (2, .ref a_sights)]) hC dX5_spoonsFit_1 rfl (by decide) rfl ?_
  have hL8 : ∀ (r2 k2 : Nat), k2 + r2 = sights_count → (f_X5_spoonsFit sights_count kinds moons places values p0 p1) = f_X5_spoonsFit_L2 kinds moons places values p0 p1 r2 k2 → V g X 5 w0 0 0 2 [(0, .int p0), (1, .int p1), (2, .ref a_sights), (3, .int (nI k2))] [] := by
    intro r2
    induction r2 with
    | zero =>
      intro k2 hb ho 
      refine vv_iload_n hC 3 dX5_spoonsFit_2 rfl rfl ?_
      refine vv_aload_n hC 2 dX5_spoonsFit_3 rfl rfl ?_
      refine vv_getN (v := .int (nI sights_count)) hC fl_X5_57 dX5_spoonsFit_4 h_sights rfl ?_
      refine vv_icmp_ge hC 78 dX5_spoonsFit_7 (by decide) (fun c => ?_) (fun c => False.elim (c ((nI_le_ (a := sights_count) (b := k2) (by omega) (by omega)).mpr (by omega))))
      refine vv_iconst (v := 1) hC dX5_spoonsFit_78 (by decide) ?_
      have hf : (f_X5_spoonsFit sights_count kinds moons places values p0 p1) = true := ho.trans (by first | (simp only [f_X5_spoonsFit_L2]; done) | rfl | (simp only [f_X5_spoonsFit_L2]; rfl))
      refine vv_zret hC hR rfl (by decide) dX5_spoonsFit_79 (by omega) (by omega) ?_
      rw [hf]
      exact ⟨rfl, rfl⟩
    | succ r2 ih =>
      intro k2 hb ho 
      refine vv_iload_n hC 3 dX5_spoonsFit_2 rfl rfl ?_
      refine vv_aload_n hC 2 dX5_spoonsFit_3 rfl rfl ?_
      refine vv_getN (v := .int (nI sights_count)) hC fl_X5_57 dX5_spoonsFit_4 h_sights rfl ?_
      refine vv_icmp_ge hC 78 dX5_spoonsFit_7 (by decide) (fun c => absurd ((nI_le_ (a := sights_count) (b := k2) (by omega) (by omega)).mp c) (by first | omega | decide)) (fun c => ?_)
      refine vv_aload_n hC 2 dX5_spoonsFit_10 rfl rfl ?_
      refine vv_iload_n hC 3 dX5_spoonsFit_11 rfl rfl ?_
      refine vv_iconst (v := 2) hC dX5_spoonsFit_12 (by decide) ?_
      refine vv_iconst (v := 0) hC dX5_spoonsFit_13 (by decide) ?_
      refine vv_callV hC dX5_spoonsFit_14 md_X4_isOf lk_m_X5_62 lk_i_X4_isOf lk_s_X4_isOf h_sights rfl (As := [.int (nI k2), .int 2, .int 0]) (rest := []) (c_X4_isOf g w0 a_sights a_kinds a_moons a_places a_values sights_count kinds moons (nI k2) 2 0 h_sights h_kinds h_moons) rfl rfl (Nat.le_of_ble_eq_true rfl) ⟨by decide, by decide, by decide, by decide⟩ (fun r w9 hq => ?_)
      obtain ⟨rfl, rfl⟩ := hq
      show V g X 5 w0 0 0 17 [(0, .int p0), (1, .int p1), (2, .ref a_sights), (3, .int (nI k2))] [.int (bI (f_X4_isOf kinds moons (nI k2) 2 0))]
      have hJ2 : V g X 5 w0 0 0 37 [(0, .int p0), (1, .int p1), (2, .ref a_sights), (3, .int (nI k2))] [.int (bI (if f_X4_isOf kinds moons (nI k2) 2 0 = true then (if f_X8_has p1 (f_X4_place places (nI k2)) = true then true else false) else false))] := by
        refine vv_istore (lv2 := [(4, .int (bI (if f_X4_isOf kinds moons (nI k2) 2 0 = true then (if f_X8_has p1 (f_X4_place places (nI k2)) = true then true else false) else false))), (0, .int p0), (1, .int p1), (2, .ref a_sights), (3, .int (nI k2))]) hC dX5_spoonsFit_37 (by decide) rfl ?_
        refine vv_iload hC 0 dX5_spoonsFit_39 rfl ?_
        refine vv_if_eq hC 72 dX5_spoonsFit_41 (by decide) (fun c4 => ?_) (fun c4 => ?_)
        · have c4 : ¬ ((if f_X4_isOf kinds moons (nI k2) 2 0 = true then (if f_X8_has p1 (f_X4_place places (nI k2)) = true then true else false) else false) = true) := bI_f c4
          refine vv_iinc (lv2 := [(3, .int (nI (k2 + 1))), (4, .int (bI (if f_X4_isOf kinds moons (nI k2) 2 0 = true then (if f_X8_has p1 (f_X4_place places (nI k2)) = true then true else false) else false))), (0, .int p0), (1, .int p1), (2, .ref a_sights)]) hC 4 dX5_spoonsFit_72 rfl (nI_add k2 1) (by decide) rfl ?_
          refine vv_goto hC 2 dX5_spoonsFit_75 (by decide) ?_
          refine vv_lv [2, 3, 4, 0] rfl ?_
          exact ih (k2 + 1) (by omega) (ho.trans (by first | (simp only [f_X5_spoonsFit_L2, if_neg c4]; done) | rfl | (simp only [f_X5_spoonsFit_L2, if_neg c4]; rfl)))
        · have c4 : (if f_X4_isOf kinds moons (nI k2) 2 0 = true then (if f_X8_has p1 (f_X4_place places (nI k2)) = true then true else false) else false) = true := bI_t c4
          refine vv_iload_n hC 1 dX5_spoonsFit_44 rfl rfl ?_
          refine vv_aload_n hC 3 dX5_spoonsFit_45 rfl rfl ?_
          refine vv_iload_n hC 4 dX5_spoonsFit_46 rfl rfl ?_
          refine vv_callV hC dX5_spoonsFit_47 md_X4_place lk_m_X5_66 lk_i_X4_place lk_s_X4_place h_sights rfl (As := [.int (nI k2)]) (rest := [.int p0]) (c_X4_place g w0 a_sights a_kinds a_moons a_places a_values sights_count places (nI k2) h_sights h_places) rfl rfl (Nat.le_of_ble_eq_true rfl) ⟨by decide, by decide, by decide, by decide⟩ (fun r w9 hq => ?_)
          obtain ⟨rfl, rfl⟩ := hq
          show V g X 5 w0 0 0 50 [(4, .int (bI (if f_X4_isOf kinds moons (nI k2) 2 0 = true then (if f_X8_has p1 (f_X4_place places (nI k2)) = true then true else false) else false))), (0, .int p0), (1, .int p1), (2, .ref a_sights), (3, .int (nI k2))] [.int (f_X4_place places (nI k2)), .int p0]
          refine vv_callSN hC dX5_spoonsFit_50 md_X8_has lk_n_X5_70 lk_t_X8_has (As := [.int p0, .int (f_X4_place places (nI k2))]) (rest := []) (c_X8_has g w0 p0 (f_X4_place places (nI k2))) rfl rfl (Nat.le_of_ble_eq_true rfl) ⟨by decide, by decide, by decide, by decide⟩ (fun r w9 hq => ?_)
          obtain ⟨rfl, rfl⟩ := hq
          show V g X 5 w0 0 0 53 [(4, .int (bI (if f_X4_isOf kinds moons (nI k2) 2 0 = true then (if f_X8_has p1 (f_X4_place places (nI k2)) = true then true else false) else false))), (0, .int p0), (1, .int p1), (2, .ref a_sights), (3, .int (nI k2))] [.int (bI (f_X8_has p0 (f_X4_place places (nI k2))))]
          refine vv_aload_n hC 3 dX5_spoonsFit_53 rfl rfl ?_
          refine vv_iload_n hC 4 dX5_spoonsFit_54 rfl rfl ?_
          refine vv_callV hC dX5_spoonsFit_55 md_X4_value lk_m_X5_74 lk_i_X4_value lk_s_X4_value h_sights rfl (As := [.int (nI k2)]) (rest := [.int (bI (f_X8_has p0 (f_X4_place places (nI k2))))]) (c_X4_value g w0 a_sights a_kinds a_moons a_places a_values sights_count values (nI k2) h_sights h_values) rfl rfl (Nat.le_of_ble_eq_true rfl) ⟨by decide, by decide, by decide, by decide⟩ (fun r w9 hq => ?_)
          obtain ⟨rfl, rfl⟩ := hq
          show V g X 5 w0 0 0 58 [(4, .int (bI (if f_X4_isOf kinds moons (nI k2) 2 0 = true then (if f_X8_has p1 (f_X4_place places (nI k2)) = true then true else false) else false))), (0, .int p0), (1, .int p1), (2, .ref a_sights), (3, .int (nI k2))] [.int (f_X4_value values (nI k2)), .int (bI (f_X8_has p0 (f_X4_place places (nI k2))))]
          refine vv_iconst (v := 1) hC dX5_spoonsFit_58 (by decide) ?_
          have hJ6 : V g X 5 w0 0 0 67 [(0, .int p0), (1, .int p1), (2, .ref a_sights), (3, .int (nI k2)), (4, .int (bI (if f_X4_isOf kinds moons (nI k2) 2 0 = true then (if f_X8_has p1 (f_X4_place places (nI k2)) = true then true else false) else false)))] [.int (bI (if f_X4_value values (nI k2) = 1 then true else false)), .int (bI (f_X8_has p0 (f_X4_place places (nI k2))))] := by
            refine vv_icmp_ne hC 72 dX5_spoonsFit_67 (by decide) (fun c7 => ?_) (fun c7 => ?_)
            · have c7 : ¬ (bI (f_X8_has p0 (f_X4_place places (nI k2))) = bI (if f_X4_value values (nI k2) = 1 then true else false)) := c7
              refine vv_iinc (lv2 := [(3, .int (nI (k2 + 1))), (0, .int p0), (1, .int p1), (2, .ref a_sights), (4, .int (bI (if f_X4_isOf kinds moons (nI k2) 2 0 = true then (if f_X8_has p1 (f_X4_place places (nI k2)) = true then true else false) else false)))]) hC 3 dX5_spoonsFit_72 rfl (nI_add k2 1) (by decide) rfl ?_
              refine vv_goto hC 2 dX5_spoonsFit_75 (by decide) ?_
              refine vv_lv [1, 2, 3, 0] rfl ?_
              exact ih (k2 + 1) (by omega) (ho.trans (by first | (simp only [f_X5_spoonsFit_L2, if_pos c4, if_neg c7]; done) | rfl | (simp only [f_X5_spoonsFit_L2, if_pos c4, if_neg c7]; rfl)))
            · have c7 : bI (f_X8_has p0 (f_X4_place places (nI k2))) = bI (if f_X4_value values (nI k2) = 1 then true else false) := c7
              refine vv_iconst (v := 0) hC dX5_spoonsFit_70 (by decide) ?_
              have hf : (f_X5_spoonsFit sights_count kinds moons places values p0 p1) = false := ho.trans (by first | (simp only [f_X5_spoonsFit_L2, if_pos c4, if_pos c7]; done) | rfl | (simp only [f_X5_spoonsFit_L2, if_pos c4, if_pos c7]; rfl))
              refine vv_zret hC hR rfl (by decide) dX5_spoonsFit_71 (by omega) (by omega) ?_
              rw [hf]
              exact ⟨rfl, rfl⟩
          refine vv_icmp_ne hC 66 dX5_spoonsFit_59 (by decide) (fun c5 => ?_) (fun c5 => ?_)
          · have c5 : ¬ (f_X4_value values (nI k2) = 1) := c5
            refine vv_iconst (v := 0) hC dX5_spoonsFit_66 (by decide) ?_
            refine vv_lv [1, 2, 3, 4, 0] rfl ?_
            have hz := hJ6
            try simp only [if_neg c5] at hz
            first | exact hz | (simp only [if_neg c5]; exact hz)
          · have c5 : f_X4_value values (nI k2) = 1 := c5
            refine vv_iconst (v := 1) hC dX5_spoonsFit_62 (by decide) ?_
            refine vv_goto hC 67 dX5_spoonsFit_63 (by decide) ?_
            refine vv_lv [1, 2, 3, 4, 0] rfl ?_
            have hz := hJ6
            try simp only [if_pos c5] at hz
            first | exact hz | (simp only [if_pos c5]; exact hz)
      refine vv_if_eq hC 36 dX5_spoonsFit_17 (by decide) (fun c1 => ?_) (fun c1 => ?_)
      · have c1 : ¬ (f_X4_isOf kinds moons (nI k2) 2 0 = true) := bI_f c1
        refine vv_iconst (v := 0) hC dX5_spoonsFit_36 (by decide) ?_
        have hz := hJ2
        try simp only [if_neg c1] at hz
        first | exact hz | (simp only [if_neg c1]; exact hz)
      · have c1 : f_X4_isOf kinds moons (nI k2) 2 0 = true := bI_t c1
        refine vv_iload_n hC 1 dX5_spoonsFit_20 rfl rfl ?_
        refine vv_aload_n hC 2 dX5_spoonsFit_21 rfl rfl ?_
        refine vv_iload_n hC 3 dX5_spoonsFit_22 rfl rfl ?_
        refine vv_callV hC dX5_spoonsFit_23 md_X4_place lk_m_X5_66 lk_i_X4_place lk_s_X4_place h_sights rfl (As := [.int (nI k2)]) (rest := [.int p1]) (c_X4_place g w0 a_sights a_kinds a_moons a_places a_values sights_count places (nI k2) h_sights h_places) rfl rfl (Nat.le_of_ble_eq_true rfl) ⟨by decide, by decide, by decide, by decide⟩ (fun r w9 hq => ?_)
        obtain ⟨rfl, rfl⟩ := hq
        show V g X 5 w0 0 0 26 [(0, .int p0), (1, .int p1), (2, .ref a_sights), (3, .int (nI k2))] [.int (f_X4_place places (nI k2)), .int p1]
        refine vv_callSN hC dX5_spoonsFit_26 md_X8_has lk_n_X5_70 lk_t_X8_has (As := [.int p1, .int (f_X4_place places (nI k2))]) (rest := []) (c_X8_has g w0 p1 (f_X4_place places (nI k2))) rfl rfl (Nat.le_of_ble_eq_true rfl) ⟨by decide, by decide, by decide, by decide⟩ (fun r w9 hq => ?_)
        obtain ⟨rfl, rfl⟩ := hq
        show V g X 5 w0 0 0 29 [(0, .int p0), (1, .int p1), (2, .ref a_sights), (3, .int (nI k2))] [.int (bI (f_X8_has p1 (f_X4_place places (nI k2))))]
        refine vv_if_eq hC 36 dX5_spoonsFit_29 (by decide) (fun c3 => ?_) (fun c3 => ?_)
        · have c3 : ¬ (f_X8_has p1 (f_X4_place places (nI k2)) = true) := bI_f c3
          refine vv_iconst (v := 0) hC dX5_spoonsFit_36 (by decide) ?_
          have hz := hJ2
          try simp only [if_pos c1, if_neg c3] at hz
          first | exact hz | (simp only [if_pos c1, if_neg c3]; exact hz)
        · have c3 : f_X8_has p1 (f_X4_place places (nI k2)) = true := bI_t c3
          refine vv_iconst (v := 1) hC dX5_spoonsFit_32 (by decide) ?_
          refine vv_goto hC 37 dX5_spoonsFit_33 (by decide) ?_
          have hz := hJ2
          try simp only [if_pos c1, if_pos c3] at hz
          first | exact hz | (simp only [if_pos c1, if_pos c3]; exact hz)
  refine vv_lv [1, 2, 3, 0] rfl ?_
  exact hL8 sights_count 0 (by omega) (by first | (simp only [f_X5_spoonsFit]; done) | rfl | (simp only [f_X5_spoonsFit]; rfl))
def f_X5_look_L195 (v : TVi) (n : TN) (l6_24 : Int32) (l7_24 : Int32) (y_ta_away_24 : Int32) : Nat → Nat → Int64 → Int64 → Int64 × Int64
  | 0, k195, y_ta_unseenWays_195, y_ta_seenHouses_195 => (y_ta_unseenWays_195, y_ta_seenHouses_195)
  | r195 + 1, k195, y_ta_unseenWays_195, y_ta_seenHouses_195 => f_X5_look_L195 v n l6_24 l7_24 y_ta_away_24 r195 (k195 + 1) (f_X8_withCell y_ta_unseenWays_195 (nI k195) (f_J6_bitCount_0f7a4 ((if f_X8_has l6_24 (nI k195) = true then (0 : Int32) else f_X2_reach n v (nI k195)) &&& ((((if f_X8_has l6_24 (nI k195) = true then (0 : Int32) else f_X2_reach n v (nI k195)) &&& l7_24) &&& (f_X8_cell (gVi_wells v) (f_X8_cell (gVi_homes v) (nI k195)) ^^^ (-1))) ^^^ (-1))) + bI (if f_X8_has y_ta_away_24 (nI k195) = true then false else true))) (f_X8_withCell y_ta_seenHouses_195 (nI k195) (((if f_X8_has l6_24 (nI k195) = true then (0 : Int32) else f_X2_reach n v (nI k195)) &&& l7_24) &&& (f_X8_cell (gVi_wells v) (f_X8_cell (gVi_homes v) (nI k195)) ^^^ (-1))))
def f_X5_look_L24 (ta_unseenWays : Int64) (ta_seenHouses : Int64) (v : TVi) (n : TN) (places : Nat → Int32) (values : Nat → Int32) (kinds : Nat → Int32) (moons : Nat → Int32) (p4 : Int32) : Nat → Nat → Int32 → Int32 → Int64 → Int32 → Int64 × Int32 × Int64 × Int64
  | 0, k24, l6_24, l7_24, l8_24, y_ta_away_24 => (l8_24, y_ta_away_24, (f_X5_look_L195 v n l6_24 l7_24 y_ta_away_24 (gVi_people v) 0 ta_unseenWays ta_seenHouses).1, (f_X5_look_L195 v n l6_24 l7_24 y_ta_away_24 (gVi_people v) 0 ta_unseenWays ta_seenHouses).2)
  | r24 + 1, k24, l6_24, l7_24, l8_24, y_ta_away_24 => (if f_X4_isOf kinds moons (nI k24) 1 p4 = true then (if f_X8_has (f_X2_there n v) (f_X4_place places (nI k24)) = true then f_X5_look_L24 ta_unseenWays ta_seenHouses v n places values kinds moons p4 r24 (k24 + 1) (l6_24 ||| (if f_X4_value values (nI k24) = 1 then f_X8_bit (f_X4_place places (nI k24)) else (0 : Int32))) l7_24 l8_24 (y_ta_away_24 ||| (if f_X4_value values (nI k24) = 1 then (0 : Int32) else f_X8_bit (f_X4_place places (nI k24)))) else (if f_X4_isOf kinds moons (nI k24) 0 p4 = true then (if nI (gVi_houses v) ≤ f_X4_place places (nI k24) then f_X5_look_L24 ta_unseenWays ta_seenHouses v n places values kinds moons p4 r24 (k24 + 1) l6_24 l7_24 l8_24 y_ta_away_24 else (if f_X8_has l7_24 (f_X4_place places (nI k24)) = true then (if f_X8_cell l8_24 (f_X4_place places (nI k24)) = f_X4_value values (nI k24) then f_X5_look_L24 ta_unseenWays ta_seenHouses v n places values kinds moons p4 r24 (k24 + 1) l6_24 (l7_24 ||| f_X8_bit (f_X4_place places (nI k24))) (f_X8_withCell l8_24 (f_X4_place places (nI k24)) (f_X4_value values (nI k24))) y_ta_away_24 else ((-1), y_ta_away_24, ta_unseenWays, ta_seenHouses)) else f_X5_look_L24 ta_unseenWays ta_seenHouses v n places values kinds moons p4 r24 (k24 + 1) l6_24 (l7_24 ||| f_X8_bit (f_X4_place places (nI k24))) (f_X8_withCell l8_24 (f_X4_place places (nI k24)) (f_X4_value values (nI k24))) y_ta_away_24)) else f_X5_look_L24 ta_unseenWays ta_seenHouses v n places values kinds moons p4 r24 (k24 + 1) l6_24 l7_24 l8_24 y_ta_away_24)) else (if f_X4_isOf kinds moons (nI k24) 0 p4 = true then (if nI (gVi_houses v) ≤ f_X4_place places (nI k24) then f_X5_look_L24 ta_unseenWays ta_seenHouses v n places values kinds moons p4 r24 (k24 + 1) l6_24 l7_24 l8_24 y_ta_away_24 else (if f_X8_has l7_24 (f_X4_place places (nI k24)) = true then (if f_X8_cell l8_24 (f_X4_place places (nI k24)) = f_X4_value values (nI k24) then f_X5_look_L24 ta_unseenWays ta_seenHouses v n places values kinds moons p4 r24 (k24 + 1) l6_24 (l7_24 ||| f_X8_bit (f_X4_place places (nI k24))) (f_X8_withCell l8_24 (f_X4_place places (nI k24)) (f_X4_value values (nI k24))) y_ta_away_24 else ((-1), y_ta_away_24, ta_unseenWays, ta_seenHouses)) else f_X5_look_L24 ta_unseenWays ta_seenHouses v n places values kinds moons p4 r24 (k24 + 1) l6_24 (l7_24 ||| f_X8_bit (f_X4_place places (nI k24))) (f_X8_withCell l8_24 (f_X4_place places (nI k24)) (f_X4_value values (nI k24))) y_ta_away_24)) else f_X5_look_L24 ta_unseenWays ta_seenHouses v n places values kinds moons p4 r24 (k24 + 1) l6_24 l7_24 l8_24 y_ta_away_24))
def f_X5_look (ta_unseenWays : Int64) (ta_seenHouses : Int64) (v : TVi) (n : TN) (sights_count : Nat) (places : Nat → Int32) (values : Nat → Int32) (kinds : Nat → Int32) (moons : Nat → Int32) (p4 : Int32) : Int64 × Int32 × Int64 × Int64 := f_X5_look_L24 ta_unseenWays ta_seenHouses v n places values kinds moons p4 sights_count 0 0 0 0 0
set_option maxHeartbeats 4000000 in
set_option maxRecDepth 100000 in
theorem c_X5_look (g : GT) (w0 : Wd) (a_ta : Nat) (a_fits : Nat) (a_left : Nat) (a_needs : Nat) (a_v : Nat) (a_n : Nat) (a_sights : Nat) (a_kinds : Nat) (a_moons : Nat) (a_places : Nat) (a_values : Nat) (ta_people : Nat) (ta_away : Int32) (ta_unseenWays : Int64) (ta_seenHouses : Int64) (v : TVi) (n : TN) (sights_count : Nat) (places : Nat → Int32) (values : Nat → Int32) (kinds : Nat → Int32) (moons : Nat → Int32) (p4 : Int32) (hvh : gVi_houses v ≤ 4) (hvp : gVi_people v ≤ 6) (hsc : sights_count ≤ 6) (h_ta : w0 a_ta = some (.inr (5, cTa a_fits a_left a_needs (ta_people, ta_away, ta_unseenWays, ta_seenHouses)))) (h_v : w0 a_v = some (.inr (7, cVi v))) (h_n : w0 a_n = some (.inr (2, cN n))) (h_sights : w0 a_sights = some (.inr (4, cSi a_kinds a_moons a_places a_values sights_count))) (h_places : w0 a_places = some (.inl (g.2.2.1 0, 6, .inl places))) (h_values : w0 a_values = some (.inl (g.2.2.1 0, 6, .inl values))) (h_kinds : w0 a_kinds = some (.inl (g.2.2.1 0, 6, .inl kinds))) (h_moons : w0 a_moons = some (.inl (g.2.2.1 0, 6, .inl moons))) : CT g yX5_look cX5_look 14 (some .long) 3 64 0 0 w0 [.ref a_ta, .ref a_v, .ref a_n, .ref a_sights, .int p4] (fun r w2 => r = some (.long ((f_X5_look ta_unseenWays ta_seenHouses v n sights_count places values kinds moons p4).1)) ∧ w2 a_ta = some (.inr (5, cTa a_fits a_left a_needs (ta_people, (f_X5_look ta_unseenWays ta_seenHouses v n sights_count places values kinds moons p4).2.1, (f_X5_look ta_unseenWays ta_seenHouses v n sights_count places values kinds moons p4).2.2.1, (f_X5_look ta_unseenWays ta_seenHouses v n sights_count places values kinds moons p4).2.2.2))) ∧ wE (fun q => q = a_ta) w0 w2) := by
  refine CT.of (own := RX5) (by decide +kernel) rfl (Nat.le_of_ble_eq_true rfl) (fun X hC hR hI => ?_)
  show V g X 14 w0 0 0 0 [(0, .ref a_ta), (1, .ref a_v), (2, .ref a_n), (3, .ref a_sights), (4, .int p4)] []
  have hE : wE (fun q => q = a_ta) w0 w0 := wE.refl
  refine vv_aload_n hC 2 dX5_look_0 rfl rfl ?_
  refine vv_aload_n hC 1 dX5_look_1 rfl rfl ?_
  refine vv_callV hC dX5_look_2 md_X2_there lk_m_X5_39 lk_i_X2_there lk_s_X2_there h_n rfl (As := [.ref a_v]) (rest := []) (c_X2_there g w0 a_n a_v n v h_n h_v) rfl rfl (Nat.le_of_ble_eq_true rfl) ⟨by decide, by decide, by decide, by decide⟩ (fun r w9 hq => ?_)
  obtain ⟨rfl, rfl⟩ := hq
  show V g X 14 w0 0 0 5 [(0, .ref a_ta), (1, .ref a_v), (2, .ref a_n), (3, .ref a_sights), (4, .int p4)] [.int (f_X2_there n v)]
  refine vv_istore (lv2 := [(5, .int (f_X2_there n v)), (0, .ref a_ta), (1, .ref a_v), (2, .ref a_n), (3, .ref a_sights), (4, .int p4)]) hC dX5_look_5 (by decide) rfl ?_
  refine vv_iconst (v := 0) hC dX5_look_7 (by decide) ?_
  refine vv_istore (lv2 := [(6, .int 0), (5, .int (f_X2_there n v)), (0, .ref a_ta), (1, .ref a_v), (2, .ref a_n), (3, .ref a_sights), (4, .int p4)]) hC dX5_look_8 (by decide) rfl ?_
  refine vv_aload_n hC 2 dX5_look_10 rfl rfl ?_
  refine vv_iconst (v := 0) hC dX5_look_11 (by decide) ?_
  refine vv_put hC fp_X5_26 dX5_look_12 h_ta rfl rfl (Nat.le_of_ble_eq_true rfl) (fun w1 t1 hs => ?_)
  have t1 : w1 a_ta = some (.inr (5, cTa a_fits a_left a_needs (ta_people, 0, ta_unseenWays, ta_seenHouses))) := t1.trans (congrArg (fun z => some (Sum.inr (5, z))) (eTa_away _ _ _ _ _ _ _ _))
  have h_v := hs _ _ (fw_oo h_v h_ta (by decide)) h_v
  have h_n := hs _ _ (fw_oo h_n h_ta (by decide)) h_n
  have h_sights := hs _ _ (fw_oo h_sights h_ta (by decide)) h_sights
  have h_places := hs _ _ (fw_ao h_places h_ta) h_places
  have h_values := hs _ _ (fw_ao h_values h_ta) h_values
  have h_kinds := hs _ _ (fw_ao h_kinds h_ta) h_kinds
  have h_moons := hs _ _ (fw_ao h_moons h_ta) h_moons
  have h_ta := t1
  have hE := hE.trans (hs.mono (fun _ z => z))
  refine vv_iconst (v := 0) hC dX5_look_15 (by decide) ?_
  refine vv_istore (lv2 := [(7, .int 0), (6, .int 0), (5, .int (f_X2_there n v)), (0, .ref a_ta), (1, .ref a_v), (2, .ref a_n), (3, .ref a_sights), (4, .int p4)]) hC dX5_look_16 (by decide) rfl ?_
  refine vv_lconst (v := 0) hC dX5_look_18 (by decide) ?_
  refine vv_lstore (lv2 := [(8, .long 0), (7, .int 0), (6, .int 0), (5, .int (f_X2_there n v)), (0, .ref a_ta), (1, .ref a_v), (2, .ref a_n), (3, .ref a_sights), (4, .int p4)]) hC dX5_look_19 (by decide) rfl ?_
  refine vv_iconst (v := 0) hC dX5_look_21 (by decide) ?_
  refine vv_istore (lv2 := [(10, .int 0), (8, .long 0), (7, .int 0), (6, .int 0), (5, .int (f_X2_there n v)), (0, .ref a_ta), (1, .ref a_v), (2, .ref a_n), (3, .ref a_sights), (4, .int p4)]) hC dX5_look_22 (by decide) rfl ?_
  have hL27 : ∀ (r24 k24 : Nat) (l6_24 : Int32) (l7_24 : Int32) (l8_24 : Int64) (y_ta_away_24 : Int32) (w2 : Wd), k24 + r24 = sights_count → (f_X5_look ta_unseenWays ta_seenHouses v n sights_count places values kinds moons p4) = f_X5_look_L24 ta_unseenWays ta_seenHouses v n places values kinds moons p4 r24 k24 l6_24 l7_24 l8_24 y_ta_away_24 → w2 a_ta = some (.inr (5, cTa a_fits a_left a_needs (ta_people, y_ta_away_24, ta_unseenWays, ta_seenHouses))) → w2 a_v = some (.inr (7, cVi v)) → w2 a_n = some (.inr (2, cN n)) → w2 a_sights = some (.inr (4, cSi a_kinds a_moons a_places a_values sights_count)) → w2 a_places = some (.inl (g.2.2.1 0, 6, .inl places)) → w2 a_values = some (.inl (g.2.2.1 0, 6, .inl values)) → w2 a_kinds = some (.inl (g.2.2.1 0, 6, .inl kinds)) → w2 a_moons = some (.inl (g.2.2.1 0, 6, .inl moons)) → wE (fun q => q = a_ta) w0 w2 → V g X 14 w2 0 0 24 [(0, .ref a_ta), (1, .ref a_v), (2, .ref a_n), (3, .ref a_sights), (4, .int p4), (5, .int (f_X2_there n v)), (6, .int l6_24), (7, .int l7_24), (8, .long l8_24), (10, .int (nI k24))] [] := by
    intro r24
    induction r24 with
    | zero =>
      intro k24 l6_24 l7_24 l8_24 y_ta_away_24 w2 hb ho h_ta h_v h_n h_sights h_places h_values h_kinds h_moons hE 
      refine vv_iload hC 9 dX5_look_24 rfl ?_
      refine vv_aload_n hC 3 dX5_look_26 rfl rfl ?_
      refine vv_getN (v := .int (nI sights_count)) hC fl_X5_57 dX5_look_27 h_sights rfl ?_
      refine vv_icmp_ge hC 192 dX5_look_30 (by decide) (fun c => ?_) (fun c => False.elim (c ((nI_le_ (a := sights_count) (b := k24) (by omega) (by omega)).mpr (by omega))))
      refine vv_iconst (v := 0) hC dX5_look_192 (by decide) ?_
      refine vv_istore (lv2 := [(10, .int 0), (0, .ref a_ta), (1, .ref a_v), (2, .ref a_n), (3, .ref a_sights), (4, .int p4), (5, .int (f_X2_there n v)), (6, .int l6_24), (7, .int l7_24), (8, .long l8_24)]) hC dX5_look_193 (by decide) rfl ?_
      have hL11 : ∀ (r195 k195 : Nat) (y_ta_unseenWays_195 : Int64) (y_ta_seenHouses_195 : Int64) (w3 : Wd) (out : Int64 × Int64), k195 + r195 = gVi_people v → out = f_X5_look_L195 v n l6_24 l7_24 y_ta_away_24 r195 k195 y_ta_unseenWays_195 y_ta_seenHouses_195 → w3 a_ta = some (.inr (5, cTa a_fits a_left a_needs (ta_people, y_ta_away_24, y_ta_unseenWays_195, y_ta_seenHouses_195))) → w3 a_v = some (.inr (7, cVi v)) → w3 a_n = some (.inr (2, cN n)) → w3 a_sights = some (.inr (4, cSi a_kinds a_moons a_places a_values sights_count)) → w3 a_places = some (.inl (g.2.2.1 0, 6, .inl places)) → w3 a_values = some (.inl (g.2.2.1 0, 6, .inl values)) → w3 a_kinds = some (.inl (g.2.2.1 0, 6, .inl kinds)) → w3 a_moons = some (.inl (g.2.2.1 0, 6, .inl moons)) → wE (fun q => q = a_ta) w0 w3 → (∀ w10 : Wd, w10 a_ta = some (.inr (5, cTa a_fits a_left a_needs (ta_people, y_ta_away_24, out.1, out.2))) → w10 a_v = some (.inr (7, cVi v)) → w10 a_n = some (.inr (2, cN n)) → w10 a_sights = some (.inr (4, cSi a_kinds a_moons a_places a_values sights_count)) → w10 a_places = some (.inl (g.2.2.1 0, 6, .inl places)) → w10 a_values = some (.inl (g.2.2.1 0, 6, .inl values)) → w10 a_kinds = some (.inl (g.2.2.1 0, 6, .inl kinds)) → w10 a_moons = some (.inl (g.2.2.1 0, 6, .inl moons)) → wE (fun q => q = a_ta) w0 w10 → V g X 14 w10 0 0 319 [(0, .ref a_ta), (1, .ref a_v), (2, .ref a_n), (3, .ref a_sights), (4, .int p4), (5, .int (f_X2_there n v)), (6, .int l6_24), (7, .int l7_24), (8, .long l8_24)] []) → V g X 14 w3 0 0 195 [(0, .ref a_ta), (1, .ref a_v), (2, .ref a_n), (3, .ref a_sights), (4, .int p4), (5, .int (f_X2_there n v)), (6, .int l6_24), (7, .int l7_24), (8, .long l8_24), (10, .int (nI k195))] [] := by
        intro r195
        induction r195 with
        | zero =>
          intro k195 y_ta_unseenWays_195 y_ta_seenHouses_195 w3 out hb ho h_ta h_v h_n h_sights h_places h_values h_kinds h_moons hE hk
          refine vv_iload hC 9 dX5_look_195 rfl ?_
          refine vv_aload_n hC 1 dX5_look_197 rfl rfl ?_
          refine vv_getN (v := .int (nI (gVi_people v))) hC fl_X5_36 dX5_look_198 h_v rfl ?_
          refine vv_icmp_ge hC 319 dX5_look_201 (by decide) (fun c => ?_) (fun c => False.elim (c ((nI_le_ (a := gVi_people v) (b := k195) (by omega) (by omega)).mpr (by omega))))
          refine vv_lv [0, 1, 2, 3, 4, 5, 6, 7, 8] rfl ?_
          have ho := ho.trans (by first | (simp only [f_X5_look_L195]; done) | rfl | (simp only [f_X5_look_L195]; rfl) : _ = (y_ta_unseenWays_195, y_ta_seenHouses_195))
          subst ho
          exact hk w3 h_ta h_v h_n h_sights h_places h_values h_kinds h_moons hE
        | succ r195 ih =>
          intro k195 y_ta_unseenWays_195 y_ta_seenHouses_195 w3 out hb ho h_ta h_v h_n h_sights h_places h_values h_kinds h_moons hE hk
          refine vv_iload hC 9 dX5_look_195 rfl ?_
          refine vv_aload_n hC 1 dX5_look_197 rfl rfl ?_
          refine vv_getN (v := .int (nI (gVi_people v))) hC fl_X5_36 dX5_look_198 h_v rfl ?_
          refine vv_icmp_ge hC 319 dX5_look_201 (by decide) (fun c => absurd ((nI_le_ (a := gVi_people v) (b := k195) (by omega) (by omega)).mp c) (by first | omega | decide)) (fun c => ?_)
          refine vv_iload hC 6 dX5_look_204 rfl ?_
          refine vv_iload hC 9 dX5_look_206 rfl ?_
          refine vv_callSN hC dX5_look_208 md_X8_has lk_n_X5_70 lk_t_X8_has (As := [.int l6_24, .int (nI k195)]) (rest := []) (c_X8_has g w3 l6_24 (nI k195)) rfl rfl (Nat.le_of_ble_eq_true rfl) ⟨by decide, by decide, by decide, by decide⟩ (fun r w9 hq => ?_)
          obtain ⟨rfl, rfl⟩ := hq
          show V g X 14 w3 0 0 211 [(0, .ref a_ta), (1, .ref a_v), (2, .ref a_n), (3, .ref a_sights), (4, .int p4), (5, .int (f_X2_there n v)), (6, .int l6_24), (7, .int l7_24), (8, .long l8_24), (10, .int (nI k195))] [.int (bI (f_X8_has l6_24 (nI k195)))]
          have hJ5 : V g X 14 w3 0 0 225 [(0, .ref a_ta), (1, .ref a_v), (2, .ref a_n), (3, .ref a_sights), (4, .int p4), (5, .int (f_X2_there n v)), (6, .int l6_24), (7, .int l7_24), (8, .long l8_24), (10, .int (nI k195))] [.int (if f_X8_has l6_24 (nI k195) = true then (0 : Int32) else f_X2_reach n v (nI k195))] := by
            refine vv_istore (lv2 := [(11, .int (if f_X8_has l6_24 (nI k195) = true then (0 : Int32) else f_X2_reach n v (nI k195))), (0, .ref a_ta), (1, .ref a_v), (2, .ref a_n), (3, .ref a_sights), (4, .int p4), (5, .int (f_X2_there n v)), (6, .int l6_24), (7, .int l7_24), (8, .long l8_24), (10, .int (nI k195))]) hC dX5_look_225 (by decide) rfl ?_
            refine vv_iload hC 0 dX5_look_227 rfl ?_
            refine vv_iload hC 8 dX5_look_229 rfl ?_
            refine vv_iand hC dX5_look_231 ?_
            refine vv_aload_n hC 2 dX5_look_232 rfl rfl ?_
            refine vv_getN (v := .long (gVi_wells v)) hC fl_X5_97 dX5_look_233 h_v rfl ?_
            refine vv_aload_n hC 2 dX5_look_236 rfl rfl ?_
            refine vv_getN (v := .long (gVi_homes v)) hC fl_X5_100 dX5_look_237 h_v rfl ?_
            refine vv_iload hC 10 dX5_look_240 rfl ?_
            refine vv_callSN hC dX5_look_242 md_X8_cell lk_n_X5_83 lk_t_X8_cell (As := [.long (gVi_homes v), .int (nI k195)]) (rest := [.long (gVi_wells v), .int ((if f_X8_has l6_24 (nI k195) = true then (0 : Int32) else f_X2_reach n v (nI k195)) &&& l7_24)]) (c_X8_cell g w3 (gVi_homes v) (nI k195)) rfl rfl (Nat.le_of_ble_eq_true rfl) ⟨by decide, by decide, by decide, by decide⟩ (fun r w9 hq => ?_)
            obtain ⟨rfl, rfl⟩ := hq
            show V g X 14 w3 0 0 245 [(11, .int (if f_X8_has l6_24 (nI k195) = true then (0 : Int32) else f_X2_reach n v (nI k195))), (0, .ref a_ta), (1, .ref a_v), (2, .ref a_n), (3, .ref a_sights), (4, .int p4), (5, .int (f_X2_there n v)), (6, .int l6_24), (7, .int l7_24), (8, .long l8_24), (10, .int (nI k195))] [.int (f_X8_cell (gVi_homes v) (nI k195)), .long (gVi_wells v), .int ((if f_X8_has l6_24 (nI k195) = true then (0 : Int32) else f_X2_reach n v (nI k195)) &&& l7_24)]
            refine vv_callSN hC dX5_look_245 md_X8_cell lk_n_X5_83 lk_t_X8_cell (As := [.long (gVi_wells v), .int (f_X8_cell (gVi_homes v) (nI k195))]) (rest := [.int ((if f_X8_has l6_24 (nI k195) = true then (0 : Int32) else f_X2_reach n v (nI k195)) &&& l7_24)]) (c_X8_cell g w3 (gVi_wells v) (f_X8_cell (gVi_homes v) (nI k195))) rfl rfl (Nat.le_of_ble_eq_true rfl) ⟨by decide, by decide, by decide, by decide⟩ (fun r w9 hq => ?_)
            obtain ⟨rfl, rfl⟩ := hq
            show V g X 14 w3 0 0 248 [(11, .int (if f_X8_has l6_24 (nI k195) = true then (0 : Int32) else f_X2_reach n v (nI k195))), (0, .ref a_ta), (1, .ref a_v), (2, .ref a_n), (3, .ref a_sights), (4, .int p4), (5, .int (f_X2_there n v)), (6, .int l6_24), (7, .int l7_24), (8, .long l8_24), (10, .int (nI k195))] [.int (f_X8_cell (gVi_wells v) (f_X8_cell (gVi_homes v) (nI k195))), .int ((if f_X8_has l6_24 (nI k195) = true then (0 : Int32) else f_X2_reach n v (nI k195)) &&& l7_24)]
            refine vv_iconst (v := (-1)) hC dX5_look_248 (by decide) ?_
            refine vv_ixor hC dX5_look_249 ?_
            refine vv_iand hC dX5_look_250 ?_
            refine vv_istore (lv2 := [(12, .int (((if f_X8_has l6_24 (nI k195) = true then (0 : Int32) else f_X2_reach n v (nI k195)) &&& l7_24) &&& (f_X8_cell (gVi_wells v) (f_X8_cell (gVi_homes v) (nI k195)) ^^^ (-1)))), (11, .int (if f_X8_has l6_24 (nI k195) = true then (0 : Int32) else f_X2_reach n v (nI k195))), (0, .ref a_ta), (1, .ref a_v), (2, .ref a_n), (3, .ref a_sights), (4, .int p4), (5, .int (f_X2_there n v)), (6, .int l6_24), (7, .int l7_24), (8, .long l8_24), (10, .int (nI k195))]) hC dX5_look_251 (by decide) rfl ?_
            refine vv_aload_n hC 2 dX5_look_253 rfl rfl ?_
            refine vv_get (v := .int y_ta_away_24) hC fl_X5_26 dX5_look_254 h_ta rfl ?_
            refine vv_iload hC 11 dX5_look_257 rfl ?_
            refine vv_callSN hC dX5_look_259 md_X8_has lk_n_X5_70 lk_t_X8_has (As := [.int y_ta_away_24, .int (nI k195)]) (rest := []) (c_X8_has g w3 y_ta_away_24 (nI k195)) rfl rfl (Nat.le_of_ble_eq_true rfl) ⟨by decide, by decide, by decide, by decide⟩ (fun r w9 hq => ?_)
            obtain ⟨rfl, rfl⟩ := hq
            show V g X 14 w3 0 0 262 [(12, .int (((if f_X8_has l6_24 (nI k195) = true then (0 : Int32) else f_X2_reach n v (nI k195)) &&& l7_24) &&& (f_X8_cell (gVi_wells v) (f_X8_cell (gVi_homes v) (nI k195)) ^^^ (-1)))), (11, .int (if f_X8_has l6_24 (nI k195) = true then (0 : Int32) else f_X2_reach n v (nI k195))), (0, .ref a_ta), (1, .ref a_v), (2, .ref a_n), (3, .ref a_sights), (4, .int p4), (5, .int (f_X2_there n v)), (6, .int l6_24), (7, .int l7_24), (8, .long l8_24), (10, .int (nI k195))] [.int (bI (f_X8_has y_ta_away_24 (nI k195)))]
            have hJ7 : V g X 14 w3 0 0 270 [(0, .ref a_ta), (1, .ref a_v), (2, .ref a_n), (3, .ref a_sights), (4, .int p4), (5, .int (f_X2_there n v)), (6, .int l6_24), (7, .int l7_24), (8, .long l8_24), (10, .int (nI k195)), (11, .int (if f_X8_has l6_24 (nI k195) = true then (0 : Int32) else f_X2_reach n v (nI k195))), (12, .int (((if f_X8_has l6_24 (nI k195) = true then (0 : Int32) else f_X2_reach n v (nI k195)) &&& l7_24) &&& (f_X8_cell (gVi_wells v) (f_X8_cell (gVi_homes v) (nI k195)) ^^^ (-1))))] [.int (bI (if f_X8_has y_ta_away_24 (nI k195) = true then false else true))] := by
              refine vv_istore (lv2 := [(13, .int (bI (if f_X8_has y_ta_away_24 (nI k195) = true then false else true))), (0, .ref a_ta), (1, .ref a_v), (2, .ref a_n), (3, .ref a_sights), (4, .int p4), (5, .int (f_X2_there n v)), (6, .int l6_24), (7, .int l7_24), (8, .long l8_24), (10, .int (nI k195)), (11, .int (if f_X8_has l6_24 (nI k195) = true then (0 : Int32) else f_X2_reach n v (nI k195))), (12, .int (((if f_X8_has l6_24 (nI k195) = true then (0 : Int32) else f_X2_reach n v (nI k195)) &&& l7_24) &&& (f_X8_cell (gVi_wells v) (f_X8_cell (gVi_homes v) (nI k195)) ^^^ (-1))))]) hC dX5_look_270 (by decide) rfl ?_
              refine vv_aload_n hC 1 dX5_look_272 rfl rfl ?_
              refine vv_aload_n hC 1 dX5_look_273 rfl rfl ?_
              refine vv_get (v := .long y_ta_seenHouses_195) hC fl_X5_33 dX5_look_274 h_ta rfl ?_
              refine vv_iload hC 10 dX5_look_277 rfl ?_
              refine vv_iload hC 12 dX5_look_279 rfl ?_
              refine vv_callSN hC dX5_look_281 md_X8_withCell lk_n_X5_89 lk_t_X8_withCell (As := [.long y_ta_seenHouses_195, .int (nI k195), .int (((if f_X8_has l6_24 (nI k195) = true then (0 : Int32) else f_X2_reach n v (nI k195)) &&& l7_24) &&& (f_X8_cell (gVi_wells v) (f_X8_cell (gVi_homes v) (nI k195)) ^^^ (-1)))]) (rest := [.ref a_ta]) (c_X8_withCell g w3 y_ta_seenHouses_195 (nI k195) (((if f_X8_has l6_24 (nI k195) = true then (0 : Int32) else f_X2_reach n v (nI k195)) &&& l7_24) &&& (f_X8_cell (gVi_wells v) (f_X8_cell (gVi_homes v) (nI k195)) ^^^ (-1)))) rfl rfl (Nat.le_of_ble_eq_true rfl) ⟨by decide, by decide, by decide, by decide⟩ (fun r w9 hq => ?_)
              obtain ⟨rfl, rfl⟩ := hq
              show V g X 14 w3 0 0 284 [(13, .int (bI (if f_X8_has y_ta_away_24 (nI k195) = true then false else true))), (0, .ref a_ta), (1, .ref a_v), (2, .ref a_n), (3, .ref a_sights), (4, .int p4), (5, .int (f_X2_there n v)), (6, .int l6_24), (7, .int l7_24), (8, .long l8_24), (10, .int (nI k195)), (11, .int (if f_X8_has l6_24 (nI k195) = true then (0 : Int32) else f_X2_reach n v (nI k195))), (12, .int (((if f_X8_has l6_24 (nI k195) = true then (0 : Int32) else f_X2_reach n v (nI k195)) &&& l7_24) &&& (f_X8_cell (gVi_wells v) (f_X8_cell (gVi_homes v) (nI k195)) ^^^ (-1))))] [.long (f_X8_withCell y_ta_seenHouses_195 (nI k195) (((if f_X8_has l6_24 (nI k195) = true then (0 : Int32) else f_X2_reach n v (nI k195)) &&& l7_24) &&& (f_X8_cell (gVi_wells v) (f_X8_cell (gVi_homes v) (nI k195)) ^^^ (-1)))), .ref a_ta]
              refine vv_put hC fp_X5_33 dX5_look_284 h_ta rfl rfl (Nat.le_of_ble_eq_true rfl) (fun w8 t1 hs => ?_)
              have t1 : w8 a_ta = some (.inr (5, cTa a_fits a_left a_needs (ta_people, y_ta_away_24, y_ta_unseenWays_195, f_X8_withCell y_ta_seenHouses_195 (nI k195) (((if f_X8_has l6_24 (nI k195) = true then (0 : Int32) else f_X2_reach n v (nI k195)) &&& l7_24) &&& (f_X8_cell (gVi_wells v) (f_X8_cell (gVi_homes v) (nI k195)) ^^^ (-1)))))) := t1.trans (congrArg (fun z => some (Sum.inr (5, z))) (eTa_seenHouses _ _ _ _ _ _ _ _))
              have h_v := hs _ _ (fw_oo h_v h_ta (by decide)) h_v
              have h_n := hs _ _ (fw_oo h_n h_ta (by decide)) h_n
              have h_sights := hs _ _ (fw_oo h_sights h_ta (by decide)) h_sights
              have h_places := hs _ _ (fw_ao h_places h_ta) h_places
              have h_values := hs _ _ (fw_ao h_values h_ta) h_values
              have h_kinds := hs _ _ (fw_ao h_kinds h_ta) h_kinds
              have h_moons := hs _ _ (fw_ao h_moons h_ta) h_moons
              have h_ta := t1
              have hE := hE.trans (hs.mono (fun _ z => z))
              refine vv_aload_n hC 1 dX5_look_287 rfl rfl ?_
              refine vv_aload_n hC 1 dX5_look_288 rfl rfl ?_
              refine vv_get (v := .long y_ta_unseenWays_195) hC fl_X5_29 dX5_look_289 h_ta rfl ?_
              refine vv_iload hC 10 dX5_look_292 rfl ?_
              refine vv_iload hC 11 dX5_look_294 rfl ?_
              refine vv_iload hC 12 dX5_look_296 rfl ?_
              refine vv_iconst (v := (-1)) hC dX5_look_298 (by decide) ?_
              refine vv_ixor hC dX5_look_299 ?_
              refine vv_iand hC dX5_look_300 ?_
              refine vv_callS hC dX5_look_301 md_J6_bitCount_0f7a4 lk_m_X5_103 lk_t_J6_bitCount_0f7a4 (As := [.int ((if f_X8_has l6_24 (nI k195) = true then (0 : Int32) else f_X2_reach n v (nI k195)) &&& ((((if f_X8_has l6_24 (nI k195) = true then (0 : Int32) else f_X2_reach n v (nI k195)) &&& l7_24) &&& (f_X8_cell (gVi_wells v) (f_X8_cell (gVi_homes v) (nI k195)) ^^^ (-1))) ^^^ (-1)))]) (rest := [.int (nI k195), .long y_ta_unseenWays_195, .ref a_ta]) (c_J6_bitCount_0f7a4 g w8 ((if f_X8_has l6_24 (nI k195) = true then (0 : Int32) else f_X2_reach n v (nI k195)) &&& ((((if f_X8_has l6_24 (nI k195) = true then (0 : Int32) else f_X2_reach n v (nI k195)) &&& l7_24) &&& (f_X8_cell (gVi_wells v) (f_X8_cell (gVi_homes v) (nI k195)) ^^^ (-1))) ^^^ (-1)))) rfl rfl (Nat.le_of_ble_eq_true rfl) ⟨by decide, by decide, by decide, by decide⟩ (fun r w9 hq => ?_)
              obtain ⟨rfl, rfl⟩ := hq
              show V g X 14 w8 0 0 304 [(13, .int (bI (if f_X8_has y_ta_away_24 (nI k195) = true then false else true))), (0, .ref a_ta), (1, .ref a_v), (2, .ref a_n), (3, .ref a_sights), (4, .int p4), (5, .int (f_X2_there n v)), (6, .int l6_24), (7, .int l7_24), (8, .long l8_24), (10, .int (nI k195)), (11, .int (if f_X8_has l6_24 (nI k195) = true then (0 : Int32) else f_X2_reach n v (nI k195))), (12, .int (((if f_X8_has l6_24 (nI k195) = true then (0 : Int32) else f_X2_reach n v (nI k195)) &&& l7_24) &&& (f_X8_cell (gVi_wells v) (f_X8_cell (gVi_homes v) (nI k195)) ^^^ (-1))))] [.int (f_J6_bitCount_0f7a4 ((if f_X8_has l6_24 (nI k195) = true then (0 : Int32) else f_X2_reach n v (nI k195)) &&& ((((if f_X8_has l6_24 (nI k195) = true then (0 : Int32) else f_X2_reach n v (nI k195)) &&& l7_24) &&& (f_X8_cell (gVi_wells v) (f_X8_cell (gVi_homes v) (nI k195)) ^^^ (-1))) ^^^ (-1)))), .int (nI k195), .long y_ta_unseenWays_195, .ref a_ta]
              refine vv_iload hC 0 dX5_look_304 rfl ?_
              refine vv_iadd hC dX5_look_306 ?_
              refine vv_callSN hC dX5_look_307 md_X8_withCell lk_n_X5_89 lk_t_X8_withCell (As := [.long y_ta_unseenWays_195, .int (nI k195), .int (f_J6_bitCount_0f7a4 ((if f_X8_has l6_24 (nI k195) = true then (0 : Int32) else f_X2_reach n v (nI k195)) &&& ((((if f_X8_has l6_24 (nI k195) = true then (0 : Int32) else f_X2_reach n v (nI k195)) &&& l7_24) &&& (f_X8_cell (gVi_wells v) (f_X8_cell (gVi_homes v) (nI k195)) ^^^ (-1))) ^^^ (-1))) + bI (if f_X8_has y_ta_away_24 (nI k195) = true then false else true))]) (rest := [.ref a_ta]) (c_X8_withCell g w8 y_ta_unseenWays_195 (nI k195) (f_J6_bitCount_0f7a4 ((if f_X8_has l6_24 (nI k195) = true then (0 : Int32) else f_X2_reach n v (nI k195)) &&& ((((if f_X8_has l6_24 (nI k195) = true then (0 : Int32) else f_X2_reach n v (nI k195)) &&& l7_24) &&& (f_X8_cell (gVi_wells v) (f_X8_cell (gVi_homes v) (nI k195)) ^^^ (-1))) ^^^ (-1))) + bI (if f_X8_has y_ta_away_24 (nI k195) = true then false else true))) rfl rfl (Nat.le_of_ble_eq_true rfl) ⟨by decide, by decide, by decide, by decide⟩ (fun r w9 hq => ?_)
              obtain ⟨rfl, rfl⟩ := hq
              show V g X 14 w8 0 0 310 [(13, .int (bI (if f_X8_has y_ta_away_24 (nI k195) = true then false else true))), (0, .ref a_ta), (1, .ref a_v), (2, .ref a_n), (3, .ref a_sights), (4, .int p4), (5, .int (f_X2_there n v)), (6, .int l6_24), (7, .int l7_24), (8, .long l8_24), (10, .int (nI k195)), (11, .int (if f_X8_has l6_24 (nI k195) = true then (0 : Int32) else f_X2_reach n v (nI k195))), (12, .int (((if f_X8_has l6_24 (nI k195) = true then (0 : Int32) else f_X2_reach n v (nI k195)) &&& l7_24) &&& (f_X8_cell (gVi_wells v) (f_X8_cell (gVi_homes v) (nI k195)) ^^^ (-1))))] [.long (f_X8_withCell y_ta_unseenWays_195 (nI k195) (f_J6_bitCount_0f7a4 ((if f_X8_has l6_24 (nI k195) = true then (0 : Int32) else f_X2_reach n v (nI k195)) &&& ((((if f_X8_has l6_24 (nI k195) = true then (0 : Int32) else f_X2_reach n v (nI k195)) &&& l7_24) &&& (f_X8_cell (gVi_wells v) (f_X8_cell (gVi_homes v) (nI k195)) ^^^ (-1))) ^^^ (-1))) + bI (if f_X8_has y_ta_away_24 (nI k195) = true then false else true))), .ref a_ta]
              refine vv_put hC fp_X5_29 dX5_look_310 h_ta rfl rfl (Nat.le_of_ble_eq_true rfl) (fun w9 t1 hs => ?_)
              have t1 : w9 a_ta = some (.inr (5, cTa a_fits a_left a_needs (ta_people, y_ta_away_24, f_X8_withCell y_ta_unseenWays_195 (nI k195) (f_J6_bitCount_0f7a4 ((if f_X8_has l6_24 (nI k195) = true then (0 : Int32) else f_X2_reach n v (nI k195)) &&& ((((if f_X8_has l6_24 (nI k195) = true then (0 : Int32) else f_X2_reach n v (nI k195)) &&& l7_24) &&& (f_X8_cell (gVi_wells v) (f_X8_cell (gVi_homes v) (nI k195)) ^^^ (-1))) ^^^ (-1))) + bI (if f_X8_has y_ta_away_24 (nI k195) = true then false else true)), f_X8_withCell y_ta_seenHouses_195 (nI k195) (((if f_X8_has l6_24 (nI k195) = true then (0 : Int32) else f_X2_reach n v (nI k195)) &&& l7_24) &&& (f_X8_cell (gVi_wells v) (f_X8_cell (gVi_homes v) (nI k195)) ^^^ (-1)))))) := t1.trans (congrArg (fun z => some (Sum.inr (5, z))) (eTa_unseenWays _ _ _ _ _ _ _ _))
              have h_v := hs _ _ (fw_oo h_v h_ta (by decide)) h_v
              have h_n := hs _ _ (fw_oo h_n h_ta (by decide)) h_n
              have h_sights := hs _ _ (fw_oo h_sights h_ta (by decide)) h_sights
              have h_places := hs _ _ (fw_ao h_places h_ta) h_places
              have h_values := hs _ _ (fw_ao h_values h_ta) h_values
              have h_kinds := hs _ _ (fw_ao h_kinds h_ta) h_kinds
              have h_moons := hs _ _ (fw_ao h_moons h_ta) h_moons
              have h_ta := t1
              have hE := hE.trans (hs.mono (fun _ z => z))
              refine vv_iinc (lv2 := [(10, .int (nI (k195 + 1))), (13, .int (bI (if f_X8_has y_ta_away_24 (nI k195) = true then false else true))), (0, .ref a_ta), (1, .ref a_v), (2, .ref a_n), (3, .ref a_sights), (4, .int p4), (5, .int (f_X2_there n v)), (6, .int l6_24), (7, .int l7_24), (8, .long l8_24), (11, .int (if f_X8_has l6_24 (nI k195) = true then (0 : Int32) else f_X2_reach n v (nI k195))), (12, .int (((if f_X8_has l6_24 (nI k195) = true then (0 : Int32) else f_X2_reach n v (nI k195)) &&& l7_24) &&& (f_X8_cell (gVi_wells v) (f_X8_cell (gVi_homes v) (nI k195)) ^^^ (-1))))]) hC 10 dX5_look_313 rfl (nI_add k195 1) (by decide) rfl ?_
              refine vv_goto hC 195 dX5_look_316 (by decide) ?_
              refine vv_lv [2, 3, 4, 5, 6, 7, 8, 9, 10, 0] rfl ?_
              exact ih (k195 + 1) (f_X8_withCell y_ta_unseenWays_195 (nI k195) (f_J6_bitCount_0f7a4 ((if f_X8_has l6_24 (nI k195) = true then (0 : Int32) else f_X2_reach n v (nI k195)) &&& ((((if f_X8_has l6_24 (nI k195) = true then (0 : Int32) else f_X2_reach n v (nI k195)) &&& l7_24) &&& (f_X8_cell (gVi_wells v) (f_X8_cell (gVi_homes v) (nI k195)) ^^^ (-1))) ^^^ (-1))) + bI (if f_X8_has y_ta_away_24 (nI k195) = true then false else true))) (f_X8_withCell y_ta_seenHouses_195 (nI k195) (((if f_X8_has l6_24 (nI k195) = true then (0 : Int32) else f_X2_reach n v (nI k195)) &&& l7_24) &&& (f_X8_cell (gVi_wells v) (f_X8_cell (gVi_homes v) (nI k195)) ^^^ (-1)))) w9 out (by omega) (ho.trans (by first | (simp only [f_X5_look_L195]; done) | rfl | (simp only [f_X5_look_L195]; rfl))) h_ta h_v h_n h_sights h_places h_values h_kinds h_moons hE hk
            refine vv_if_eq hC 269 dX5_look_262 (by decide) (fun c6 => ?_) (fun c6 => ?_)
            · have c6 : ¬ (f_X8_has y_ta_away_24 (nI k195) = true) := bI_f c6
              refine vv_iconst (v := 1) hC dX5_look_269 (by decide) ?_
              refine vv_lv [2, 3, 4, 5, 6, 7, 8, 9, 10, 11, 1, 0] rfl ?_
              have hz := hJ7
              try simp only [if_neg c6] at hz
              first | exact hz | (simp only [if_neg c6]; exact hz)
            · have c6 : f_X8_has y_ta_away_24 (nI k195) = true := bI_t c6
              refine vv_iconst (v := 0) hC dX5_look_265 (by decide) ?_
              refine vv_goto hC 270 dX5_look_266 (by decide) ?_
              refine vv_lv [2, 3, 4, 5, 6, 7, 8, 9, 10, 11, 1, 0] rfl ?_
              have hz := hJ7
              try simp only [if_pos c6] at hz
              first | exact hz | (simp only [if_pos c6]; exact hz)
          refine vv_if_eq hC 218 dX5_look_211 (by decide) (fun c4 => ?_) (fun c4 => ?_)
          · have c4 : ¬ (f_X8_has l6_24 (nI k195) = true) := bI_f c4
            refine vv_aload_n hC 2 dX5_look_218 rfl rfl ?_
            refine vv_aload_n hC 1 dX5_look_219 rfl rfl ?_
            refine vv_iload hC 9 dX5_look_220 rfl ?_
            refine vv_callV hC dX5_look_222 md_X2_reach lk_m_X5_93 lk_i_X2_reach lk_s_X2_reach h_n rfl (As := [.ref a_v, .int (nI k195)]) (rest := []) (c_X2_reach g w3 a_n a_v n v (nI k195) h_n h_v) rfl rfl (Nat.le_of_ble_eq_true rfl) ⟨by decide, by decide, by decide, by decide⟩ (fun r w9 hq => ?_)
            obtain ⟨rfl, rfl⟩ := hq
            show V g X 14 w3 0 0 225 [(0, .ref a_ta), (1, .ref a_v), (2, .ref a_n), (3, .ref a_sights), (4, .int p4), (5, .int (f_X2_there n v)), (6, .int l6_24), (7, .int l7_24), (8, .long l8_24), (10, .int (nI k195))] [.int (f_X2_reach n v (nI k195))]
            have hz := hJ5
            try simp only [if_neg c4] at hz
            first | exact hz | (simp only [if_neg c4]; exact hz)
          · have c4 : f_X8_has l6_24 (nI k195) = true := bI_t c4
            refine vv_iconst (v := 0) hC dX5_look_214 (by decide) ?_
            refine vv_goto hC 225 dX5_look_215 (by decide) ?_
            have hz := hJ5
            try simp only [if_pos c4] at hz
            first | exact hz | (simp only [if_pos c4]; exact hz)
      refine vv_lv [1, 2, 3, 4, 5, 6, 7, 8, 9, 0] rfl ?_
      refine hL11 (gVi_people v) 0 ta_unseenWays ta_seenHouses w2 (f_X5_look_L195 v n l6_24 l7_24 y_ta_away_24 (gVi_people v) 0 ta_unseenWays ta_seenHouses) (by omega) rfl h_ta h_v h_n h_sights h_places h_values h_kinds h_moons hE ?_
      intro w10 h_ta h_v h_n h_sights h_places h_values h_kinds h_moons hE
      refine vv_lload hC 8 dX5_look_319 rfl ?_
      have hf : (f_X5_look ta_unseenWays ta_seenHouses v n sights_count places values kinds moons p4) = (l8_24, y_ta_away_24, (f_X5_look_L195 v n l6_24 l7_24 y_ta_away_24 (gVi_people v) 0 ta_unseenWays ta_seenHouses).1, (f_X5_look_L195 v n l6_24 l7_24 y_ta_away_24 (gVi_people v) 0 ta_unseenWays ta_seenHouses).2) := ho.trans (by first | (simp only [f_X5_look_L24]; done) | rfl | (simp only [f_X5_look_L24]; rfl))
      refine vv_lret hC hR rfl dX5_look_321 (by omega) (by omega) ?_
      rw [hf]
      try dsimp only
      exact ⟨rfl, h_ta, hE⟩
    | succ r24 ih =>
      intro k24 l6_24 l7_24 l8_24 y_ta_away_24 w2 hb ho h_ta h_v h_n h_sights h_places h_values h_kinds h_moons hE 
      refine vv_iload hC 9 dX5_look_24 rfl ?_
      refine vv_aload_n hC 3 dX5_look_26 rfl rfl ?_
      refine vv_getN (v := .int (nI sights_count)) hC fl_X5_57 dX5_look_27 h_sights rfl ?_
      refine vv_icmp_ge hC 192 dX5_look_30 (by decide) (fun c => absurd ((nI_le_ (a := sights_count) (b := k24) (by omega) (by omega)).mp c) (by first | omega | decide)) (fun c => ?_)
      refine vv_aload_n hC 3 dX5_look_33 rfl rfl ?_
      refine vv_iload hC 9 dX5_look_34 rfl ?_
      refine vv_callV hC dX5_look_36 md_X4_place lk_m_X5_66 lk_i_X4_place lk_s_X4_place h_sights rfl (As := [.int (nI k24)]) (rest := []) (c_X4_place g w2 a_sights a_kinds a_moons a_places a_values sights_count places (nI k24) h_sights h_places) rfl rfl (Nat.le_of_ble_eq_true rfl) ⟨by decide, by decide, by decide, by decide⟩ (fun r w9 hq => ?_)
      obtain ⟨rfl, rfl⟩ := hq
      show V g X 14 w2 0 0 39 [(0, .ref a_ta), (1, .ref a_v), (2, .ref a_n), (3, .ref a_sights), (4, .int p4), (5, .int (f_X2_there n v)), (6, .int l6_24), (7, .int l7_24), (8, .long l8_24), (10, .int (nI k24))] [.int (f_X4_place places (nI k24))]
      refine vv_istore (lv2 := [(11, .int (f_X4_place places (nI k24))), (0, .ref a_ta), (1, .ref a_v), (2, .ref a_n), (3, .ref a_sights), (4, .int p4), (5, .int (f_X2_there n v)), (6, .int l6_24), (7, .int l7_24), (8, .long l8_24), (10, .int (nI k24))]) hC dX5_look_39 (by decide) rfl ?_
      refine vv_aload_n hC 4 dX5_look_41 rfl rfl ?_
      refine vv_iload hC 10 dX5_look_42 rfl ?_
      refine vv_callV hC dX5_look_44 md_X4_value lk_m_X5_74 lk_i_X4_value lk_s_X4_value h_sights rfl (As := [.int (nI k24)]) (rest := []) (c_X4_value g w2 a_sights a_kinds a_moons a_places a_values sights_count values (nI k24) h_sights h_values) rfl rfl (Nat.le_of_ble_eq_true rfl) ⟨by decide, by decide, by decide, by decide⟩ (fun r w9 hq => ?_)
      obtain ⟨rfl, rfl⟩ := hq
      show V g X 14 w2 0 0 47 [(11, .int (f_X4_place places (nI k24))), (0, .ref a_ta), (1, .ref a_v), (2, .ref a_n), (3, .ref a_sights), (4, .int p4), (5, .int (f_X2_there n v)), (6, .int l6_24), (7, .int l7_24), (8, .long l8_24), (10, .int (nI k24))] [.int (f_X4_value values (nI k24))]
      refine vv_istore (lv2 := [(12, .int (f_X4_value values (nI k24))), (11, .int (f_X4_place places (nI k24))), (0, .ref a_ta), (1, .ref a_v), (2, .ref a_n), (3, .ref a_sights), (4, .int p4), (5, .int (f_X2_there n v)), (6, .int l6_24), (7, .int l7_24), (8, .long l8_24), (10, .int (nI k24))]) hC dX5_look_47 (by decide) rfl ?_
      refine vv_aload_n hC 5 dX5_look_49 rfl rfl ?_
      refine vv_iload hC 11 dX5_look_50 rfl ?_
      refine vv_iconst (v := 1) hC dX5_look_52 (by decide) ?_
      refine vv_iload hC 6 dX5_look_53 rfl ?_
      refine vv_callV hC dX5_look_55 md_X4_isOf lk_m_X5_62 lk_i_X4_isOf lk_s_X4_isOf h_sights rfl (As := [.int (nI k24), .int 1, .int p4]) (rest := []) (c_X4_isOf g w2 a_sights a_kinds a_moons a_places a_values sights_count kinds moons (nI k24) 1 p4 h_sights h_kinds h_moons) rfl rfl (Nat.le_of_ble_eq_true rfl) ⟨by decide, by decide, by decide, by decide⟩ (fun r w9 hq => ?_)
      obtain ⟨rfl, rfl⟩ := hq
      show V g X 14 w2 0 0 58 [(12, .int (f_X4_value values (nI k24))), (11, .int (f_X4_place places (nI k24))), (0, .ref a_ta), (1, .ref a_v), (2, .ref a_n), (3, .ref a_sights), (4, .int p4), (5, .int (f_X2_there n v)), (6, .int l6_24), (7, .int l7_24), (8, .long l8_24), (10, .int (nI k24))] [.int (bI (f_X4_isOf kinds moons (nI k24) 1 p4))]
      refine vv_if_eq hC 118 dX5_look_58 (by decide) (fun c12 => ?_) (fun c12 => ?_)
      · have c12 : ¬ (f_X4_isOf kinds moons (nI k24) 1 p4 = true) := bI_f c12
        refine vv_aload_n hC 5 dX5_look_118 rfl rfl ?_
        refine vv_iload hC 11 dX5_look_119 rfl ?_
        refine vv_iconst (v := 0) hC dX5_look_121 (by decide) ?_
        refine vv_iload hC 6 dX5_look_122 rfl ?_
        refine vv_callV hC dX5_look_124 md_X4_isOf lk_m_X5_62 lk_i_X4_isOf lk_s_X4_isOf h_sights rfl (As := [.int (nI k24), .int 0, .int p4]) (rest := []) (c_X4_isOf g w2 a_sights a_kinds a_moons a_places a_values sights_count kinds moons (nI k24) 0 p4 h_sights h_kinds h_moons) rfl rfl (Nat.le_of_ble_eq_true rfl) ⟨by decide, by decide, by decide, by decide⟩ (fun r w9 hq => ?_)
        obtain ⟨rfl, rfl⟩ := hq
        show V g X 14 w2 0 0 127 [(12, .int (f_X4_value values (nI k24))), (11, .int (f_X4_place places (nI k24))), (0, .ref a_ta), (1, .ref a_v), (2, .ref a_n), (3, .ref a_sights), (4, .int p4), (5, .int (f_X2_there n v)), (6, .int l6_24), (7, .int l7_24), (8, .long l8_24), (10, .int (nI k24))] [.int (bI (f_X4_isOf kinds moons (nI k24) 0 p4))]
        refine vv_if_eq hC 186 dX5_look_127 (by decide) (fun c13 => ?_) (fun c13 => ?_)
        · have c13 : ¬ (f_X4_isOf kinds moons (nI k24) 0 p4 = true) := bI_f c13
          refine vv_iinc (lv2 := [(10, .int (nI (k24 + 1))), (12, .int (f_X4_value values (nI k24))), (11, .int (f_X4_place places (nI k24))), (0, .ref a_ta), (1, .ref a_v), (2, .ref a_n), (3, .ref a_sights), (4, .int p4), (5, .int (f_X2_there n v)), (6, .int l6_24), (7, .int l7_24), (8, .long l8_24)]) hC 11 dX5_look_186 rfl (nI_add k24 1) (by decide) rfl ?_
          refine vv_goto hC 24 dX5_look_189 (by decide) ?_
          refine vv_lv [3, 4, 5, 6, 7, 8, 9, 10, 11, 0] rfl ?_
          exact ih (k24 + 1) l6_24 l7_24 l8_24 y_ta_away_24 w2 (by omega) (ho.trans (by first | (simp only [f_X5_look_L24, if_neg c12, if_neg c13]; done) | rfl | (simp only [f_X5_look_L24, if_neg c12, if_neg c13]; rfl))) h_ta h_v h_n h_sights h_places h_values h_kinds h_moons hE
        · have c13 : f_X4_isOf kinds moons (nI k24) 0 p4 = true := bI_t c13
          refine vv_iload hC 1 dX5_look_130 rfl ?_
          refine vv_aload_n hC 3 dX5_look_132 rfl rfl ?_
          refine vv_getN (v := .int (nI (gVi_houses v))) hC fl_X5_80 dX5_look_133 h_v rfl ?_
          refine vv_icmp_ge hC 186 dX5_look_136 (by decide) (fun c14 => ?_) (fun c14 => ?_)
          · have c14 : nI (gVi_houses v) ≤ f_X4_place places (nI k24) := c14
            refine vv_iinc (lv2 := [(10, .int (nI (k24 + 1))), (12, .int (f_X4_value values (nI k24))), (11, .int (f_X4_place places (nI k24))), (0, .ref a_ta), (1, .ref a_v), (2, .ref a_n), (3, .ref a_sights), (4, .int p4), (5, .int (f_X2_there n v)), (6, .int l6_24), (7, .int l7_24), (8, .long l8_24)]) hC 11 dX5_look_186 rfl (nI_add k24 1) (by decide) rfl ?_
            refine vv_goto hC 24 dX5_look_189 (by decide) ?_
            refine vv_lv [3, 4, 5, 6, 7, 8, 9, 10, 11, 0] rfl ?_
            exact ih (k24 + 1) l6_24 l7_24 l8_24 y_ta_away_24 w2 (by omega) (ho.trans (by first | (simp only [f_X5_look_L24, if_neg c12, if_pos c13, if_pos c14]; done) | rfl | (simp only [f_X5_look_L24, if_neg c12, if_pos c13, if_pos c14]; rfl))) h_ta h_v h_n h_sights h_places h_values h_kinds h_moons hE
          · have c14 : ¬ (nI (gVi_houses v) ≤ f_X4_place places (nI k24)) := c14
            refine vv_iload hC 9 dX5_look_139 rfl ?_
            refine vv_iload hC 1 dX5_look_141 rfl ?_
            refine vv_callSN hC dX5_look_143 md_X8_has lk_n_X5_70 lk_t_X8_has (As := [.int l7_24, .int (f_X4_place places (nI k24))]) (rest := []) (c_X8_has g w2 l7_24 (f_X4_place places (nI k24))) rfl rfl (Nat.le_of_ble_eq_true rfl) ⟨by decide, by decide, by decide, by decide⟩ (fun r w9 hq => ?_)
            obtain ⟨rfl, rfl⟩ := hq
            show V g X 14 w2 0 0 146 [(12, .int (f_X4_value values (nI k24))), (11, .int (f_X4_place places (nI k24))), (0, .ref a_ta), (1, .ref a_v), (2, .ref a_n), (3, .ref a_sights), (4, .int p4), (5, .int (f_X2_there n v)), (6, .int l6_24), (7, .int l7_24), (8, .long l8_24), (10, .int (nI k24))] [.int (bI (f_X8_has l7_24 (f_X4_place places (nI k24))))]
            refine vv_if_eq hC 165 dX5_look_146 (by decide) (fun c15 => ?_) (fun c15 => ?_)
            · have c15 : ¬ (f_X8_has l7_24 (f_X4_place places (nI k24)) = true) := bI_f c15
              refine vv_iload hC 9 dX5_look_165 rfl ?_
              refine vv_iload hC 1 dX5_look_167 rfl ?_
              refine vv_callSN hC dX5_look_169 md_X8_bit lk_n_X5_77 lk_t_X8_bit (As := [.int (f_X4_place places (nI k24))]) (rest := [.int l7_24]) (c_X8_bit g w2 (f_X4_place places (nI k24))) rfl rfl (Nat.le_of_ble_eq_true rfl) ⟨by decide, by decide, by decide, by decide⟩ (fun r w9 hq => ?_)
              obtain ⟨rfl, rfl⟩ := hq
              show V g X 14 w2 0 0 172 [(12, .int (f_X4_value values (nI k24))), (11, .int (f_X4_place places (nI k24))), (0, .ref a_ta), (1, .ref a_v), (2, .ref a_n), (3, .ref a_sights), (4, .int p4), (5, .int (f_X2_there n v)), (6, .int l6_24), (7, .int l7_24), (8, .long l8_24), (10, .int (nI k24))] [.int (f_X8_bit (f_X4_place places (nI k24))), .int l7_24]
              refine vv_ior hC dX5_look_172 ?_
              refine vv_istore (lv2 := [(7, .int (l7_24 ||| f_X8_bit (f_X4_place places (nI k24)))), (12, .int (f_X4_value values (nI k24))), (11, .int (f_X4_place places (nI k24))), (0, .ref a_ta), (1, .ref a_v), (2, .ref a_n), (3, .ref a_sights), (4, .int p4), (5, .int (f_X2_there n v)), (6, .int l6_24), (8, .long l8_24), (10, .int (nI k24))]) hC dX5_look_173 (by decide) rfl ?_
              refine vv_lload hC 10 dX5_look_175 rfl ?_
              refine vv_iload hC 2 dX5_look_177 rfl ?_
              refine vv_iload hC 1 dX5_look_179 rfl ?_
              refine vv_callSN hC dX5_look_181 md_X8_withCell lk_n_X5_89 lk_t_X8_withCell (As := [.long l8_24, .int (f_X4_place places (nI k24)), .int (f_X4_value values (nI k24))]) (rest := []) (c_X8_withCell g w2 l8_24 (f_X4_place places (nI k24)) (f_X4_value values (nI k24))) rfl rfl (Nat.le_of_ble_eq_true rfl) ⟨by decide, by decide, by decide, by decide⟩ (fun r w9 hq => ?_)
              obtain ⟨rfl, rfl⟩ := hq
              show V g X 14 w2 0 0 184 [(7, .int (l7_24 ||| f_X8_bit (f_X4_place places (nI k24)))), (12, .int (f_X4_value values (nI k24))), (11, .int (f_X4_place places (nI k24))), (0, .ref a_ta), (1, .ref a_v), (2, .ref a_n), (3, .ref a_sights), (4, .int p4), (5, .int (f_X2_there n v)), (6, .int l6_24), (8, .long l8_24), (10, .int (nI k24))] [.long (f_X8_withCell l8_24 (f_X4_place places (nI k24)) (f_X4_value values (nI k24)))]
              refine vv_lstore (lv2 := [(8, .long (f_X8_withCell l8_24 (f_X4_place places (nI k24)) (f_X4_value values (nI k24)))), (7, .int (l7_24 ||| f_X8_bit (f_X4_place places (nI k24)))), (12, .int (f_X4_value values (nI k24))), (11, .int (f_X4_place places (nI k24))), (0, .ref a_ta), (1, .ref a_v), (2, .ref a_n), (3, .ref a_sights), (4, .int p4), (5, .int (f_X2_there n v)), (6, .int l6_24), (10, .int (nI k24))]) hC dX5_look_184 (by decide) rfl ?_
              refine vv_iinc (lv2 := [(10, .int (nI (k24 + 1))), (8, .long (f_X8_withCell l8_24 (f_X4_place places (nI k24)) (f_X4_value values (nI k24)))), (7, .int (l7_24 ||| f_X8_bit (f_X4_place places (nI k24)))), (12, .int (f_X4_value values (nI k24))), (11, .int (f_X4_place places (nI k24))), (0, .ref a_ta), (1, .ref a_v), (2, .ref a_n), (3, .ref a_sights), (4, .int p4), (5, .int (f_X2_there n v)), (6, .int l6_24)]) hC 11 dX5_look_186 rfl (nI_add k24 1) (by decide) rfl ?_
              refine vv_goto hC 24 dX5_look_189 (by decide) ?_
              refine vv_lv [5, 6, 7, 8, 9, 10, 11, 2, 1, 0] rfl ?_
              exact ih (k24 + 1) l6_24 (l7_24 ||| f_X8_bit (f_X4_place places (nI k24))) (f_X8_withCell l8_24 (f_X4_place places (nI k24)) (f_X4_value values (nI k24))) y_ta_away_24 w2 (by omega) (ho.trans (by first | (simp only [f_X5_look_L24, if_neg c12, if_pos c13, if_neg c14, if_neg c15]; done) | rfl | (simp only [f_X5_look_L24, if_neg c12, if_pos c13, if_neg c14, if_neg c15]; rfl))) h_ta h_v h_n h_sights h_places h_values h_kinds h_moons hE
            · have c15 : f_X8_has l7_24 (f_X4_place places (nI k24)) = true := bI_t c15
              refine vv_lload hC 10 dX5_look_149 rfl ?_
              refine vv_iload hC 1 dX5_look_151 rfl ?_
              refine vv_callSN hC dX5_look_153 md_X8_cell lk_n_X5_83 lk_t_X8_cell (As := [.long l8_24, .int (f_X4_place places (nI k24))]) (rest := []) (c_X8_cell g w2 l8_24 (f_X4_place places (nI k24))) rfl rfl (Nat.le_of_ble_eq_true rfl) ⟨by decide, by decide, by decide, by decide⟩ (fun r w9 hq => ?_)
              obtain ⟨rfl, rfl⟩ := hq
              show V g X 14 w2 0 0 156 [(12, .int (f_X4_value values (nI k24))), (11, .int (f_X4_place places (nI k24))), (0, .ref a_ta), (1, .ref a_v), (2, .ref a_n), (3, .ref a_sights), (4, .int p4), (5, .int (f_X2_there n v)), (6, .int l6_24), (7, .int l7_24), (8, .long l8_24), (10, .int (nI k24))] [.int (f_X8_cell l8_24 (f_X4_place places (nI k24)))]
              refine vv_iload hC 0 dX5_look_156 rfl ?_
              refine vv_icmp_eq hC 165 dX5_look_158 (by decide) (fun c16 => ?_) (fun c16 => ?_)
              · have c16 : f_X8_cell l8_24 (f_X4_place places (nI k24)) = f_X4_value values (nI k24) := c16
                refine vv_iload hC 9 dX5_look_165 rfl ?_
                refine vv_iload hC 1 dX5_look_167 rfl ?_
                refine vv_callSN hC dX5_look_169 md_X8_bit lk_n_X5_77 lk_t_X8_bit (As := [.int (f_X4_place places (nI k24))]) (rest := [.int l7_24]) (c_X8_bit g w2 (f_X4_place places (nI k24))) rfl rfl (Nat.le_of_ble_eq_true rfl) ⟨by decide, by decide, by decide, by decide⟩ (fun r w9 hq => ?_)
                obtain ⟨rfl, rfl⟩ := hq
                show V g X 14 w2 0 0 172 [(12, .int (f_X4_value values (nI k24))), (11, .int (f_X4_place places (nI k24))), (0, .ref a_ta), (1, .ref a_v), (2, .ref a_n), (3, .ref a_sights), (4, .int p4), (5, .int (f_X2_there n v)), (6, .int l6_24), (7, .int l7_24), (8, .long l8_24), (10, .int (nI k24))] [.int (f_X8_bit (f_X4_place places (nI k24))), .int l7_24]
                refine vv_ior hC dX5_look_172 ?_
                refine vv_istore (lv2 := [(7, .int (l7_24 ||| f_X8_bit (f_X4_place places (nI k24)))), (12, .int (f_X4_value values (nI k24))), (11, .int (f_X4_place places (nI k24))), (0, .ref a_ta), (1, .ref a_v), (2, .ref a_n), (3, .ref a_sights), (4, .int p4), (5, .int (f_X2_there n v)), (6, .int l6_24), (8, .long l8_24), (10, .int (nI k24))]) hC dX5_look_173 (by decide) rfl ?_
                refine vv_lload hC 10 dX5_look_175 rfl ?_
                refine vv_iload hC 2 dX5_look_177 rfl ?_
                refine vv_iload hC 1 dX5_look_179 rfl ?_
                refine vv_callSN hC dX5_look_181 md_X8_withCell lk_n_X5_89 lk_t_X8_withCell (As := [.long l8_24, .int (f_X4_place places (nI k24)), .int (f_X4_value values (nI k24))]) (rest := []) (c_X8_withCell g w2 l8_24 (f_X4_place places (nI k24)) (f_X4_value values (nI k24))) rfl rfl (Nat.le_of_ble_eq_true rfl) ⟨by decide, by decide, by decide, by decide⟩ (fun r w9 hq => ?_)
                obtain ⟨rfl, rfl⟩ := hq
                show V g X 14 w2 0 0 184 [(7, .int (l7_24 ||| f_X8_bit (f_X4_place places (nI k24)))), (12, .int (f_X4_value values (nI k24))), (11, .int (f_X4_place places (nI k24))), (0, .ref a_ta), (1, .ref a_v), (2, .ref a_n), (3, .ref a_sights), (4, .int p4), (5, .int (f_X2_there n v)), (6, .int l6_24), (8, .long l8_24), (10, .int (nI k24))] [.long (f_X8_withCell l8_24 (f_X4_place places (nI k24)) (f_X4_value values (nI k24)))]
                refine vv_lstore (lv2 := [(8, .long (f_X8_withCell l8_24 (f_X4_place places (nI k24)) (f_X4_value values (nI k24)))), (7, .int (l7_24 ||| f_X8_bit (f_X4_place places (nI k24)))), (12, .int (f_X4_value values (nI k24))), (11, .int (f_X4_place places (nI k24))), (0, .ref a_ta), (1, .ref a_v), (2, .ref a_n), (3, .ref a_sights), (4, .int p4), (5, .int (f_X2_there n v)), (6, .int l6_24), (10, .int (nI k24))]) hC dX5_look_184 (by decide) rfl ?_
                refine vv_iinc (lv2 := [(10, .int (nI (k24 + 1))), (8, .long (f_X8_withCell l8_24 (f_X4_place places (nI k24)) (f_X4_value values (nI k24)))), (7, .int (l7_24 ||| f_X8_bit (f_X4_place places (nI k24)))), (12, .int (f_X4_value values (nI k24))), (11, .int (f_X4_place places (nI k24))), (0, .ref a_ta), (1, .ref a_v), (2, .ref a_n), (3, .ref a_sights), (4, .int p4), (5, .int (f_X2_there n v)), (6, .int l6_24)]) hC 11 dX5_look_186 rfl (nI_add k24 1) (by decide) rfl ?_
                refine vv_goto hC 24 dX5_look_189 (by decide) ?_
                refine vv_lv [5, 6, 7, 8, 9, 10, 11, 2, 1, 0] rfl ?_
                exact ih (k24 + 1) l6_24 (l7_24 ||| f_X8_bit (f_X4_place places (nI k24))) (f_X8_withCell l8_24 (f_X4_place places (nI k24)) (f_X4_value values (nI k24))) y_ta_away_24 w2 (by omega) (ho.trans (by first | (simp only [f_X5_look_L24, if_neg c12, if_pos c13, if_neg c14, if_pos c15, if_pos c16]; done) | rfl | (simp only [f_X5_look_L24, if_neg c12, if_pos c13, if_neg c14, if_pos c15, if_pos c16]; rfl))) h_ta h_v h_n h_sights h_places h_values h_kinds h_moons hE
              · have c16 : ¬ (f_X8_cell l8_24 (f_X4_place places (nI k24)) = f_X4_value values (nI k24)) := c16
                refine vv_ldc2 (v := (-1)) hC lk_l_X5_87 dX5_look_161 ?_
                have hf : (f_X5_look ta_unseenWays ta_seenHouses v n sights_count places values kinds moons p4) = ((-1), y_ta_away_24, ta_unseenWays, ta_seenHouses) := ho.trans (by first | (simp only [f_X5_look_L24, if_neg c12, if_pos c13, if_neg c14, if_pos c15, if_neg c16]; done) | rfl | (simp only [f_X5_look_L24, if_neg c12, if_pos c13, if_neg c14, if_pos c15, if_neg c16]; rfl))
                refine vv_lret hC hR rfl dX5_look_164 (by omega) (by omega) ?_
                rw [hf]
                try dsimp only
                exact ⟨rfl, h_ta, hE⟩
      · have c12 : f_X4_isOf kinds moons (nI k24) 1 p4 = true := bI_t c12
        refine vv_iload hC 7 dX5_look_61 rfl ?_
        refine vv_iload hC 1 dX5_look_63 rfl ?_
        refine vv_callSN hC dX5_look_65 md_X8_has lk_n_X5_70 lk_t_X8_has (As := [.int (f_X2_there n v), .int (f_X4_place places (nI k24))]) (rest := []) (c_X8_has g w2 (f_X2_there n v) (f_X4_place places (nI k24))) rfl rfl (Nat.le_of_ble_eq_true rfl) ⟨by decide, by decide, by decide, by decide⟩ (fun r w9 hq => ?_)
        obtain ⟨rfl, rfl⟩ := hq
        show V g X 14 w2 0 0 68 [(12, .int (f_X4_value values (nI k24))), (11, .int (f_X4_place places (nI k24))), (0, .ref a_ta), (1, .ref a_v), (2, .ref a_n), (3, .ref a_sights), (4, .int p4), (5, .int (f_X2_there n v)), (6, .int l6_24), (7, .int l7_24), (8, .long l8_24), (10, .int (nI k24))] [.int (bI (f_X8_has (f_X2_there n v) (f_X4_place places (nI k24))))]
        refine vv_if_eq hC 118 dX5_look_68 (by decide) (fun c17 => ?_) (fun c17 => ?_)
        · have c17 : ¬ (f_X8_has (f_X2_there n v) (f_X4_place places (nI k24)) = true) := bI_f c17
          refine vv_aload_n hC 5 dX5_look_118 rfl rfl ?_
          refine vv_iload hC 11 dX5_look_119 rfl ?_
          refine vv_iconst (v := 0) hC dX5_look_121 (by decide) ?_
          refine vv_iload hC 6 dX5_look_122 rfl ?_
          refine vv_callV hC dX5_look_124 md_X4_isOf lk_m_X5_62 lk_i_X4_isOf lk_s_X4_isOf h_sights rfl (As := [.int (nI k24), .int 0, .int p4]) (rest := []) (c_X4_isOf g w2 a_sights a_kinds a_moons a_places a_values sights_count kinds moons (nI k24) 0 p4 h_sights h_kinds h_moons) rfl rfl (Nat.le_of_ble_eq_true rfl) ⟨by decide, by decide, by decide, by decide⟩ (fun r w9 hq => ?_)
          obtain ⟨rfl, rfl⟩ := hq
          show V g X 14 w2 0 0 127 [(12, .int (f_X4_value values (nI k24))), (11, .int (f_X4_place places (nI k24))), (0, .ref a_ta), (1, .ref a_v), (2, .ref a_n), (3, .ref a_sights), (4, .int p4), (5, .int (f_X2_there n v)), (6, .int l6_24), (7, .int l7_24), (8, .long l8_24), (10, .int (nI k24))] [.int (bI (f_X4_isOf kinds moons (nI k24) 0 p4))]
          refine vv_if_eq hC 186 dX5_look_127 (by decide) (fun c18 => ?_) (fun c18 => ?_)
          · have c18 : ¬ (f_X4_isOf kinds moons (nI k24) 0 p4 = true) := bI_f c18
            refine vv_iinc (lv2 := [(10, .int (nI (k24 + 1))), (12, .int (f_X4_value values (nI k24))), (11, .int (f_X4_place places (nI k24))), (0, .ref a_ta), (1, .ref a_v), (2, .ref a_n), (3, .ref a_sights), (4, .int p4), (5, .int (f_X2_there n v)), (6, .int l6_24), (7, .int l7_24), (8, .long l8_24)]) hC 11 dX5_look_186 rfl (nI_add k24 1) (by decide) rfl ?_
            refine vv_goto hC 24 dX5_look_189 (by decide) ?_
            refine vv_lv [3, 4, 5, 6, 7, 8, 9, 10, 11, 0] rfl ?_
            exact ih (k24 + 1) l6_24 l7_24 l8_24 y_ta_away_24 w2 (by omega) (ho.trans (by first | (simp only [f_X5_look_L24, if_pos c12, if_neg c17, if_neg c18]; done) | rfl | (simp only [f_X5_look_L24, if_pos c12, if_neg c17, if_neg c18]; rfl))) h_ta h_v h_n h_sights h_places h_values h_kinds h_moons hE
          · have c18 : f_X4_isOf kinds moons (nI k24) 0 p4 = true := bI_t c18
            refine vv_iload hC 1 dX5_look_130 rfl ?_
            refine vv_aload_n hC 3 dX5_look_132 rfl rfl ?_
            refine vv_getN (v := .int (nI (gVi_houses v))) hC fl_X5_80 dX5_look_133 h_v rfl ?_
            refine vv_icmp_ge hC 186 dX5_look_136 (by decide) (fun c19 => ?_) (fun c19 => ?_)
            · have c19 : nI (gVi_houses v) ≤ f_X4_place places (nI k24) := c19
              refine vv_iinc (lv2 := [(10, .int (nI (k24 + 1))), (12, .int (f_X4_value values (nI k24))), (11, .int (f_X4_place places (nI k24))), (0, .ref a_ta), (1, .ref a_v), (2, .ref a_n), (3, .ref a_sights), (4, .int p4), (5, .int (f_X2_there n v)), (6, .int l6_24), (7, .int l7_24), (8, .long l8_24)]) hC 11 dX5_look_186 rfl (nI_add k24 1) (by decide) rfl ?_
              refine vv_goto hC 24 dX5_look_189 (by decide) ?_
              refine vv_lv [3, 4, 5, 6, 7, 8, 9, 10, 11, 0] rfl ?_
              exact ih (k24 + 1) l6_24 l7_24 l8_24 y_ta_away_24 w2 (by omega) (ho.trans (by first | (simp only [f_X5_look_L24, if_pos c12, if_neg c17, if_pos c18, if_pos c19]; done) | rfl | (simp only [f_X5_look_L24, if_pos c12, if_neg c17, if_pos c18, if_pos c19]; rfl))) h_ta h_v h_n h_sights h_places h_values h_kinds h_moons hE
            · have c19 : ¬ (nI (gVi_houses v) ≤ f_X4_place places (nI k24)) := c19
              refine vv_iload hC 9 dX5_look_139 rfl ?_
              refine vv_iload hC 1 dX5_look_141 rfl ?_
              refine vv_callSN hC dX5_look_143 md_X8_has lk_n_X5_70 lk_t_X8_has (As := [.int l7_24, .int (f_X4_place places (nI k24))]) (rest := []) (c_X8_has g w2 l7_24 (f_X4_place places (nI k24))) rfl rfl (Nat.le_of_ble_eq_true rfl) ⟨by decide, by decide, by decide, by decide⟩ (fun r w9 hq => ?_)
              obtain ⟨rfl, rfl⟩ := hq
              show V g X 14 w2 0 0 146 [(12, .int (f_X4_value values (nI k24))), (11, .int (f_X4_place places (nI k24))), (0, .ref a_ta), (1, .ref a_v), (2, .ref a_n), (3, .ref a_sights), (4, .int p4), (5, .int (f_X2_there n v)), (6, .int l6_24), (7, .int l7_24), (8, .long l8_24), (10, .int (nI k24))] [.int (bI (f_X8_has l7_24 (f_X4_place places (nI k24))))]
              refine vv_if_eq hC 165 dX5_look_146 (by decide) (fun c20 => ?_) (fun c20 => ?_)
              · have c20 : ¬ (f_X8_has l7_24 (f_X4_place places (nI k24)) = true) := bI_f c20
                refine vv_iload hC 9 dX5_look_165 rfl ?_
                refine vv_iload hC 1 dX5_look_167 rfl ?_
                refine vv_callSN hC dX5_look_169 md_X8_bit lk_n_X5_77 lk_t_X8_bit (As := [.int (f_X4_place places (nI k24))]) (rest := [.int l7_24]) (c_X8_bit g w2 (f_X4_place places (nI k24))) rfl rfl (Nat.le_of_ble_eq_true rfl) ⟨by decide, by decide, by decide, by decide⟩ (fun r w9 hq => ?_)
                obtain ⟨rfl, rfl⟩ := hq
                show V g X 14 w2 0 0 172 [(12, .int (f_X4_value values (nI k24))), (11, .int (f_X4_place places (nI k24))), (0, .ref a_ta), (1, .ref a_v), (2, .ref a_n), (3, .ref a_sights), (4, .int p4), (5, .int (f_X2_there n v)), (6, .int l6_24), (7, .int l7_24), (8, .long l8_24), (10, .int (nI k24))] [.int (f_X8_bit (f_X4_place places (nI k24))), .int l7_24]
                refine vv_ior hC dX5_look_172 ?_
                refine vv_istore (lv2 := [(7, .int (l7_24 ||| f_X8_bit (f_X4_place places (nI k24)))), (12, .int (f_X4_value values (nI k24))), (11, .int (f_X4_place places (nI k24))), (0, .ref a_ta), (1, .ref a_v), (2, .ref a_n), (3, .ref a_sights), (4, .int p4), (5, .int (f_X2_there n v)), (6, .int l6_24), (8, .long l8_24), (10, .int (nI k24))]) hC dX5_look_173 (by decide) rfl ?_
                refine vv_lload hC 10 dX5_look_175 rfl ?_
                refine vv_iload hC 2 dX5_look_177 rfl ?_
                refine vv_iload hC 1 dX5_look_179 rfl ?_
                refine vv_callSN hC dX5_look_181 md_X8_withCell lk_n_X5_89 lk_t_X8_withCell (As := [.long l8_24, .int (f_X4_place places (nI k24)), .int (f_X4_value values (nI k24))]) (rest := []) (c_X8_withCell g w2 l8_24 (f_X4_place places (nI k24)) (f_X4_value values (nI k24))) rfl rfl (Nat.le_of_ble_eq_true rfl) ⟨by decide, by decide, by decide, by decide⟩ (fun r w9 hq => ?_)
                obtain ⟨rfl, rfl⟩ := hq
                show V g X 14 w2 0 0 184 [(7, .int (l7_24 ||| f_X8_bit (f_X4_place places (nI k24)))), (12, .int (f_X4_value values (nI k24))), (11, .int (f_X4_place places (nI k24))), (0, .ref a_ta), (1, .ref a_v), (2, .ref a_n), (3, .ref a_sights), (4, .int p4), (5, .int (f_X2_there n v)), (6, .int l6_24), (8, .long l8_24), (10, .int (nI k24))] [.long (f_X8_withCell l8_24 (f_X4_place places (nI k24)) (f_X4_value values (nI k24)))]
                refine vv_lstore (lv2 := [(8, .long (f_X8_withCell l8_24 (f_X4_place places (nI k24)) (f_X4_value values (nI k24)))), (7, .int (l7_24 ||| f_X8_bit (f_X4_place places (nI k24)))), (12, .int (f_X4_value values (nI k24))), (11, .int (f_X4_place places (nI k24))), (0, .ref a_ta), (1, .ref a_v), (2, .ref a_n), (3, .ref a_sights), (4, .int p4), (5, .int (f_X2_there n v)), (6, .int l6_24), (10, .int (nI k24))]) hC dX5_look_184 (by decide) rfl ?_
                refine vv_iinc (lv2 := [(10, .int (nI (k24 + 1))), (8, .long (f_X8_withCell l8_24 (f_X4_place places (nI k24)) (f_X4_value values (nI k24)))), (7, .int (l7_24 ||| f_X8_bit (f_X4_place places (nI k24)))), (12, .int (f_X4_value values (nI k24))), (11, .int (f_X4_place places (nI k24))), (0, .ref a_ta), (1, .ref a_v), (2, .ref a_n), (3, .ref a_sights), (4, .int p4), (5, .int (f_X2_there n v)), (6, .int l6_24)]) hC 11 dX5_look_186 rfl (nI_add k24 1) (by decide) rfl ?_
                refine vv_goto hC 24 dX5_look_189 (by decide) ?_
                refine vv_lv [5, 6, 7, 8, 9, 10, 11, 2, 1, 0] rfl ?_
                exact ih (k24 + 1) l6_24 (l7_24 ||| f_X8_bit (f_X4_place places (nI k24))) (f_X8_withCell l8_24 (f_X4_place places (nI k24)) (f_X4_value values (nI k24))) y_ta_away_24 w2 (by omega) (ho.trans (by first | (simp only [f_X5_look_L24, if_pos c12, if_neg c17, if_pos c18, if_neg c19, if_neg c20]; done) | rfl | (simp only [f_X5_look_L24, if_pos c12, if_neg c17, if_pos c18, if_neg c19, if_neg c20]; rfl))) h_ta h_v h_n h_sights h_places h_values h_kinds h_moons hE
              · have c20 : f_X8_has l7_24 (f_X4_place places (nI k24)) = true := bI_t c20
                refine vv_lload hC 10 dX5_look_149 rfl ?_
                refine vv_iload hC 1 dX5_look_151 rfl ?_
                refine vv_callSN hC dX5_look_153 md_X8_cell lk_n_X5_83 lk_t_X8_cell (As := [.long l8_24, .int (f_X4_place places (nI k24))]) (rest := []) (c_X8_cell g w2 l8_24 (f_X4_place places (nI k24))) rfl rfl (Nat.le_of_ble_eq_true rfl) ⟨by decide, by decide, by decide, by decide⟩ (fun r w9 hq => ?_)
                obtain ⟨rfl, rfl⟩ := hq
                show V g X 14 w2 0 0 156 [(12, .int (f_X4_value values (nI k24))), (11, .int (f_X4_place places (nI k24))), (0, .ref a_ta), (1, .ref a_v), (2, .ref a_n), (3, .ref a_sights), (4, .int p4), (5, .int (f_X2_there n v)), (6, .int l6_24), (7, .int l7_24), (8, .long l8_24), (10, .int (nI k24))] [.int (f_X8_cell l8_24 (f_X4_place places (nI k24)))]
                refine vv_iload hC 0 dX5_look_156 rfl ?_
                refine vv_icmp_eq hC 165 dX5_look_158 (by decide) (fun c21 => ?_) (fun c21 => ?_)
                · have c21 : f_X8_cell l8_24 (f_X4_place places (nI k24)) = f_X4_value values (nI k24) := c21
                  refine vv_iload hC 9 dX5_look_165 rfl ?_
                  refine vv_iload hC 1 dX5_look_167 rfl ?_
                  refine vv_callSN hC dX5_look_169 md_X8_bit lk_n_X5_77 lk_t_X8_bit (As := [.int (f_X4_place places (nI k24))]) (rest := [.int l7_24]) (c_X8_bit g w2 (f_X4_place places (nI k24))) rfl rfl (Nat.le_of_ble_eq_true rfl) ⟨by decide, by decide, by decide, by decide⟩ (fun r w9 hq => ?_)
                  obtain ⟨rfl, rfl⟩ := hq
                  show V g X 14 w2 0 0 172 [(12, .int (f_X4_value values (nI k24))), (11, .int (f_X4_place places (nI k24))), (0, .ref a_ta), (1, .ref a_v), (2, .ref a_n), (3, .ref a_sights), (4, .int p4), (5, .int (f_X2_there n v)), (6, .int l6_24), (7, .int l7_24), (8, .long l8_24), (10, .int (nI k24))] [.int (f_X8_bit (f_X4_place places (nI k24))), .int l7_24]
                  refine vv_ior hC dX5_look_172 ?_
                  refine vv_istore (lv2 := [(7, .int (l7_24 ||| f_X8_bit (f_X4_place places (nI k24)))), (12, .int (f_X4_value values (nI k24))), (11, .int (f_X4_place places (nI k24))), (0, .ref a_ta), (1, .ref a_v), (2, .ref a_n), (3, .ref a_sights), (4, .int p4), (5, .int (f_X2_there n v)), (6, .int l6_24), (8, .long l8_24), (10, .int (nI k24))]) hC dX5_look_173 (by decide) rfl ?_
                  refine vv_lload hC 10 dX5_look_175 rfl ?_
                  refine vv_iload hC 2 dX5_look_177 rfl ?_
                  refine vv_iload hC 1 dX5_look_179 rfl ?_
                  refine vv_callSN hC dX5_look_181 md_X8_withCell lk_n_X5_89 lk_t_X8_withCell (As := [.long l8_24, .int (f_X4_place places (nI k24)), .int (f_X4_value values (nI k24))]) (rest := []) (c_X8_withCell g w2 l8_24 (f_X4_place places (nI k24)) (f_X4_value values (nI k24))) rfl rfl (Nat.le_of_ble_eq_true rfl) ⟨by decide, by decide, by decide, by decide⟩ (fun r w9 hq => ?_)
                  obtain ⟨rfl, rfl⟩ := hq
                  show V g X 14 w2 0 0 184 [(7, .int (l7_24 ||| f_X8_bit (f_X4_place places (nI k24)))), (12, .int (f_X4_value values (nI k24))), (11, .int (f_X4_place places (nI k24))), (0, .ref a_ta), (1, .ref a_v), (2, .ref a_n), (3, .ref a_sights), (4, .int p4), (5, .int (f_X2_there n v)), (6, .int l6_24), (8, .long l8_24), (10, .int (nI k24))] [.long (f_X8_withCell l8_24 (f_X4_place places (nI k24)) (f_X4_value values (nI k24)))]
                  refine vv_lstore (lv2 := [(8, .long (f_X8_withCell l8_24 (f_X4_place places (nI k24)) (f_X4_value values (nI k24)))), (7, .int (l7_24 ||| f_X8_bit (f_X4_place places (nI k24)))), (12, .int (f_X4_value values (nI k24))), (11, .int (f_X4_place places (nI k24))), (0, .ref a_ta), (1, .ref a_v), (2, .ref a_n), (3, .ref a_sights), (4, .int p4), (5, .int (f_X2_there n v)), (6, .int l6_24), (10, .int (nI k24))]) hC dX5_look_184 (by decide) rfl ?_
                  refine vv_iinc (lv2 := [(10, .int (nI (k24 + 1))), (8, .long (f_X8_withCell l8_24 (f_X4_place places (nI k24)) (f_X4_value values (nI k24)))), (7, .int (l7_24 ||| f_X8_bit (f_X4_place places (nI k24)))), (12, .int (f_X4_value values (nI k24))), (11, .int (f_X4_place places (nI k24))), (0, .ref a_ta), (1, .ref a_v), (2, .ref a_n), (3, .ref a_sights), (4, .int p4), (5, .int (f_X2_there n v)), (6, .int l6_24)]) hC 11 dX5_look_186 rfl (nI_add k24 1) (by decide) rfl ?_
                  refine vv_goto hC 24 dX5_look_189 (by decide) ?_
                  refine vv_lv [5, 6, 7, 8, 9, 10, 11, 2, 1, 0] rfl ?_
                  exact ih (k24 + 1) l6_24 (l7_24 ||| f_X8_bit (f_X4_place places (nI k24))) (f_X8_withCell l8_24 (f_X4_place places (nI k24)) (f_X4_value values (nI k24))) y_ta_away_24 w2 (by omega) (ho.trans (by first | (simp only [f_X5_look_L24, if_pos c12, if_neg c17, if_pos c18, if_neg c19, if_pos c20, if_pos c21]; done) | rfl | (simp only [f_X5_look_L24, if_pos c12, if_neg c17, if_pos c18, if_neg c19, if_pos c20, if_pos c21]; rfl))) h_ta h_v h_n h_sights h_places h_values h_kinds h_moons hE
                · have c21 : ¬ (f_X8_cell l8_24 (f_X4_place places (nI k24)) = f_X4_value values (nI k24)) := c21
                  refine vv_ldc2 (v := (-1)) hC lk_l_X5_87 dX5_look_161 ?_
                  have hf : (f_X5_look ta_unseenWays ta_seenHouses v n sights_count places values kinds moons p4) = ((-1), y_ta_away_24, ta_unseenWays, ta_seenHouses) := ho.trans (by first | (simp only [f_X5_look_L24, if_pos c12, if_neg c17, if_pos c18, if_neg c19, if_pos c20, if_neg c21]; done) | rfl | (simp only [f_X5_look_L24, if_pos c12, if_neg c17, if_pos c18, if_neg c19, if_pos c20, if_neg c21]; rfl))
                  refine vv_lret hC hR rfl dX5_look_164 (by omega) (by omega) ?_
                  rw [hf]
                  try dsimp only
                  exact ⟨rfl, h_ta, hE⟩
        · have c17 : f_X8_has (f_X2_there n v) (f_X4_place places (nI k24)) = true := bI_t c17
          refine vv_iload hC 8 dX5_look_71 rfl ?_
          refine vv_iload hC 0 dX5_look_73 rfl ?_
          refine vv_iconst (v := 1) hC dX5_look_75 (by decide) ?_
          have hJ23 : V g X 14 w2 0 0 88 [(0, .ref a_ta), (1, .ref a_v), (2, .ref a_n), (3, .ref a_sights), (4, .int p4), (5, .int (f_X2_there n v)), (6, .int l6_24), (7, .int l7_24), (8, .long l8_24), (10, .int (nI k24)), (11, .int (f_X4_place places (nI k24))), (12, .int (f_X4_value values (nI k24)))] [.int (if f_X4_value values (nI k24) = 1 then f_X8_bit (f_X4_place places (nI k24)) else (0 : Int32)), .int l6_24] := by
            refine vv_ior hC dX5_look_88 ?_
            refine vv_istore (lv2 := [(6, .int (l6_24 ||| (if f_X4_value values (nI k24) = 1 then f_X8_bit (f_X4_place places (nI k24)) else (0 : Int32)))), (0, .ref a_ta), (1, .ref a_v), (2, .ref a_n), (3, .ref a_sights), (4, .int p4), (5, .int (f_X2_there n v)), (7, .int l7_24), (8, .long l8_24), (10, .int (nI k24)), (11, .int (f_X4_place places (nI k24))), (12, .int (f_X4_value values (nI k24)))]) hC dX5_look_89 (by decide) rfl ?_
            refine vv_aload_n hC 1 dX5_look_91 rfl rfl ?_
            refine vv_dup hC dX5_look_92 rfl ?_
            refine vv_get (v := .int y_ta_away_24) hC fl_X5_26 dX5_look_93 h_ta rfl ?_
            refine vv_iload hC 11 dX5_look_96 rfl ?_
            refine vv_iconst (v := 1) hC dX5_look_98 (by decide) ?_
            have hJ25 : V g X 14 w2 0 0 111 [(0, .ref a_ta), (1, .ref a_v), (2, .ref a_n), (3, .ref a_sights), (4, .int p4), (5, .int (f_X2_there n v)), (6, .int (l6_24 ||| (if f_X4_value values (nI k24) = 1 then f_X8_bit (f_X4_place places (nI k24)) else (0 : Int32)))), (7, .int l7_24), (8, .long l8_24), (10, .int (nI k24)), (11, .int (f_X4_place places (nI k24))), (12, .int (f_X4_value values (nI k24)))] [.int (if f_X4_value values (nI k24) = 1 then (0 : Int32) else f_X8_bit (f_X4_place places (nI k24))), .int y_ta_away_24, .ref a_ta] := by
              refine vv_ior hC dX5_look_111 ?_
              refine vv_put hC fp_X5_26 dX5_look_112 h_ta rfl rfl (Nat.le_of_ble_eq_true rfl) (fun w26 t1 hs => ?_)
              have t1 : w26 a_ta = some (.inr (5, cTa a_fits a_left a_needs (ta_people, (y_ta_away_24 ||| (if f_X4_value values (nI k24) = 1 then (0 : Int32) else f_X8_bit (f_X4_place places (nI k24)))), ta_unseenWays, ta_seenHouses))) := t1.trans (congrArg (fun z => some (Sum.inr (5, z))) (eTa_away _ _ _ _ _ _ _ _))
              have h_v := hs _ _ (fw_oo h_v h_ta (by decide)) h_v
              have h_n := hs _ _ (fw_oo h_n h_ta (by decide)) h_n
              have h_sights := hs _ _ (fw_oo h_sights h_ta (by decide)) h_sights
              have h_places := hs _ _ (fw_ao h_places h_ta) h_places
              have h_values := hs _ _ (fw_ao h_values h_ta) h_values
              have h_kinds := hs _ _ (fw_ao h_kinds h_ta) h_kinds
              have h_moons := hs _ _ (fw_ao h_moons h_ta) h_moons
              have h_ta := t1
              have hE := hE.trans (hs.mono (fun _ z => z))
              refine vv_goto hC 186 dX5_look_115 (by decide) ?_
              refine vv_iinc (lv2 := [(10, .int (nI (k24 + 1))), (0, .ref a_ta), (1, .ref a_v), (2, .ref a_n), (3, .ref a_sights), (4, .int p4), (5, .int (f_X2_there n v)), (6, .int (l6_24 ||| (if f_X4_value values (nI k24) = 1 then f_X8_bit (f_X4_place places (nI k24)) else (0 : Int32)))), (7, .int l7_24), (8, .long l8_24), (11, .int (f_X4_place places (nI k24))), (12, .int (f_X4_value values (nI k24)))]) hC 9 dX5_look_186 rfl (nI_add k24 1) (by decide) rfl ?_
              refine vv_goto hC 24 dX5_look_189 (by decide) ?_
              refine vv_lv [1, 2, 3, 4, 5, 6, 7, 8, 9, 0] rfl ?_
              exact ih (k24 + 1) (l6_24 ||| (if f_X4_value values (nI k24) = 1 then f_X8_bit (f_X4_place places (nI k24)) else (0 : Int32))) l7_24 l8_24 (y_ta_away_24 ||| (if f_X4_value values (nI k24) = 1 then (0 : Int32) else f_X8_bit (f_X4_place places (nI k24)))) w26 (by omega) (ho.trans (by first | (simp only [f_X5_look_L24, if_pos c12, if_pos c17]; done) | rfl | (simp only [f_X5_look_L24, if_pos c12, if_pos c17]; rfl))) h_ta h_v h_n h_sights h_places h_values h_kinds h_moons hE
            refine vv_icmp_ne hC 106 dX5_look_99 (by decide) (fun c24 => ?_) (fun c24 => ?_)
            · have c24 : ¬ (f_X4_value values (nI k24) = 1) := c24
              refine vv_iload hC 10 dX5_look_106 rfl ?_
              refine vv_callSN hC dX5_look_108 md_X8_bit lk_n_X5_77 lk_t_X8_bit (As := [.int (f_X4_place places (nI k24))]) (rest := [.int y_ta_away_24, .ref a_ta]) (c_X8_bit g w2 (f_X4_place places (nI k24))) rfl rfl (Nat.le_of_ble_eq_true rfl) ⟨by decide, by decide, by decide, by decide⟩ (fun r w9 hq => ?_)
              obtain ⟨rfl, rfl⟩ := hq
              show V g X 14 w2 0 0 111 [(6, .int (l6_24 ||| (if f_X4_value values (nI k24) = 1 then f_X8_bit (f_X4_place places (nI k24)) else (0 : Int32)))), (0, .ref a_ta), (1, .ref a_v), (2, .ref a_n), (3, .ref a_sights), (4, .int p4), (5, .int (f_X2_there n v)), (7, .int l7_24), (8, .long l8_24), (10, .int (nI k24)), (11, .int (f_X4_place places (nI k24))), (12, .int (f_X4_value values (nI k24)))] [.int (f_X8_bit (f_X4_place places (nI k24))), .int y_ta_away_24, .ref a_ta]
              refine vv_lv [1, 2, 3, 4, 5, 6, 0, 7, 8, 9, 10, 11] rfl ?_
              have hz := hJ25
              try simp only [if_neg c24] at hz
              first | exact hz | (simp only [if_neg c24]; exact hz)
            · have c24 : f_X4_value values (nI k24) = 1 := c24
              refine vv_iconst (v := 0) hC dX5_look_102 (by decide) ?_
              refine vv_goto hC 111 dX5_look_103 (by decide) ?_
              refine vv_lv [1, 2, 3, 4, 5, 6, 0, 7, 8, 9, 10, 11] rfl ?_
              have hz := hJ25
              try simp only [if_pos c24] at hz
              first | exact hz | (simp only [if_pos c24]; exact hz)
          refine vv_icmp_ne hC 87 dX5_look_76 (by decide) (fun c22 => ?_) (fun c22 => ?_)
          · have c22 : ¬ (f_X4_value values (nI k24) = 1) := c22
            refine vv_iconst (v := 0) hC dX5_look_87 (by decide) ?_
            refine vv_lv [2, 3, 4, 5, 6, 7, 8, 9, 10, 11, 1, 0] rfl ?_
            have hz := hJ23
            try simp only [if_neg c22] at hz
            first | exact hz | (simp only [if_neg c22]; exact hz)
          · have c22 : f_X4_value values (nI k24) = 1 := c22
            refine vv_iload hC 1 dX5_look_79 rfl ?_
            refine vv_callSN hC dX5_look_81 md_X8_bit lk_n_X5_77 lk_t_X8_bit (As := [.int (f_X4_place places (nI k24))]) (rest := [.int l6_24]) (c_X8_bit g w2 (f_X4_place places (nI k24))) rfl rfl (Nat.le_of_ble_eq_true rfl) ⟨by decide, by decide, by decide, by decide⟩ (fun r w9 hq => ?_)
            obtain ⟨rfl, rfl⟩ := hq
            show V g X 14 w2 0 0 84 [(12, .int (f_X4_value values (nI k24))), (11, .int (f_X4_place places (nI k24))), (0, .ref a_ta), (1, .ref a_v), (2, .ref a_n), (3, .ref a_sights), (4, .int p4), (5, .int (f_X2_there n v)), (6, .int l6_24), (7, .int l7_24), (8, .long l8_24), (10, .int (nI k24))] [.int (f_X8_bit (f_X4_place places (nI k24))), .int l6_24]
            refine vv_goto hC 88 dX5_look_84 (by decide) ?_
            refine vv_lv [2, 3, 4, 5, 6, 7, 8, 9, 10, 11, 1, 0] rfl ?_
            have hz := hJ23
            try simp only [if_pos c22] at hz
            first | exact hz | (simp only [if_pos c22]; exact hz)
  refine vv_lv [5, 6, 7, 8, 9, 4, 3, 2, 1, 0] rfl ?_
  exact hL27 sights_count 0 0 0 0 0 w1 (by omega) (by first | (simp only [f_X5_look]; done) | rfl | (simp only [f_X5_look]; rfl)) h_ta h_v h_n h_sights h_places h_values h_kinds h_moons hE
def f_X5_all_L4 (fits : Nat → Int64) : Nat → Nat → Int64 → Int64
  | 0, k4, l1_4 => l1_4
  | r4 + 1, k4, l1_4 => f_X5_all_L4 fits r4 (k4 + 1) (l1_4 + fits k4)
def f_X5_all (fits : Nat → Int64) : Int64 := (f_X5_all_L4 fits 64 0 0)
set_option maxHeartbeats 4000000 in
set_option maxRecDepth 100000 in
theorem c_X5_all (g : GT) (w0 : Wd) (a_ta : Nat) (a_fits : Nat) (a_left : Nat) (a_needs : Nat) (ta_people : Nat) (ta_away : Int32) (ta_unseenWays : Int64) (ta_seenHouses : Int64) (fits : Nat → Int64) (h_ta : w0 a_ta = some (.inr (5, cTa a_fits a_left a_needs (ta_people, ta_away, ta_unseenWays, ta_seenHouses)))) (h_fits : w0 a_fits = some (.inl (g.2.2.1 1, 64, .inr (.inl fits)))) : CT g yX5_all cX5_all 4 (some .long) 0 0 0 0 w0 [.ref a_ta] (fun r w2 => r = some (.long (f_X5_all fits)) ∧ w0 = w2) := by
  refine CT.of (own := RX5) (by decide +kernel) rfl (Nat.le_of_ble_eq_true rfl) (fun X hC hR hI => ?_)
  show V g X 4 w0 0 0 0 [(0, .ref a_ta)] []
  refine vv_lconst (v := 0) hC dX5_all_0 (by decide) ?_
  refine vv_lstore_n (lv2 := [(1, .long 0), (0, .ref a_ta)]) hC dX5_all_1 rfl (by decide) rfl ?_
  refine vv_iconst (v := 0) hC dX5_all_2 (by decide) ?_
  refine vv_istore_n (lv2 := [(3, .int 0), (1, .long 0), (0, .ref a_ta)]) hC dX5_all_3 rfl (by decide) rfl ?_
  have hL1 : ∀ (r4 k4 : Nat) (l1_4 : Int64) (out : Int64), k4 + r4 = 64 → out = f_X5_all_L4 fits r4 k4 l1_4 → V g X 4 w0 0 0 28 [(0, .ref a_ta), (1, .long out)] [] → V g X 4 w0 0 0 4 [(0, .ref a_ta), (1, .long l1_4), (3, .int (nI k4))] [] := by
    intro r4
    induction r4 with
    | zero =>
      intro k4 l1_4 out hb ho hk
      refine vv_iload_n hC 2 dX5_all_4 rfl rfl ?_
      refine vv_aload_n hC 0 dX5_all_5 rfl rfl ?_
      refine vv_get (v := .ref a_fits) hC fl_X5_9 dX5_all_6 h_ta rfl ?_
      refine vv_alen_lald (v := nI 64) hC dX5_all_9 h_fits rfl ?_
      refine vv_topi (64) (by decide) ?_
      refine vv_icmp_ge hC 28 dX5_all_10 (by decide) (fun c => ?_) (fun c => False.elim (c ((nI_le_ (a := 64) (b := k4) (by omega) (by omega)).mpr (by omega))))
      refine vv_lv [0, 1] rfl ?_
      have ho := ho.trans (by first | (simp only [f_X5_all_L4]; done) | rfl | (simp only [f_X5_all_L4]; rfl) : _ = l1_4)
      subst ho
      exact hk
    | succ r4 ih =>
      intro k4 l1_4 out hb ho hk
      refine vv_iload_n hC 2 dX5_all_4 rfl rfl ?_
      refine vv_aload_n hC 0 dX5_all_5 rfl rfl ?_
      refine vv_get (v := .ref a_fits) hC fl_X5_9 dX5_all_6 h_ta rfl ?_
      refine vv_alen_lald (v := nI 64) hC dX5_all_9 h_fits rfl ?_
      refine vv_topi (64) (by decide) ?_
      refine vv_icmp_ge hC 28 dX5_all_10 (by decide) (fun c => absurd ((nI_le_ (a := 64) (b := k4) (by omega) (by omega)).mp c) (by first | omega | decide)) (fun c => ?_)
      refine vv_lload_n hC 1 dX5_all_13 rfl rfl ?_
      refine vv_aload_n hC 0 dX5_all_14 rfl rfl ?_
      refine vv_get (v := .ref a_fits) hC fl_X5_9 dX5_all_15 h_ta rfl ?_
      refine vv_iload_n hC 2 dX5_all_18 rfl rfl ?_
      refine vv_laldn (t := k4) hC dX5_all_19 h_fits (by omega) (by decide) ?_
      refine vv_ladd hC dX5_all_20 ?_
      refine vv_lstore_n (lv2 := [(1, .long (l1_4 + fits k4)), (0, .ref a_ta), (3, .int (nI k4))]) hC dX5_all_21 rfl (by decide) rfl ?_
      refine vv_iinc (lv2 := [(3, .int (nI (k4 + 1))), (1, .long (l1_4 + fits k4)), (0, .ref a_ta)]) hC 2 dX5_all_22 rfl (nI_add k4 1) (by decide) rfl ?_
      refine vv_goto hC 4 dX5_all_25 (by decide) ?_
      refine vv_lv [2, 1, 0] rfl ?_
      exact ih (k4 + 1) (l1_4 + fits k4) out (by omega) (ho.trans (by first | (simp only [f_X5_all_L4]; done) | rfl | (simp only [f_X5_all_L4]; rfl))) hk
  refine vv_lv [2, 1, 0] rfl ?_
  refine hL1 64 0 0 (f_X5_all_L4 fits 64 0 0) (by omega) rfl ?_
  refine vv_lload_n hC 1 dX5_all_28 rfl rfl ?_
  have hf : (f_X5_all fits) = (f_X5_all_L4 fits 64 0 0) := by first | (simp only [f_X5_all]; done) | rfl | (simp only [f_X5_all]; rfl)
  refine vv_lret hC hR rfl dX5_all_29 (by omega) (by omega) ?_
  rw [hf]
  exact ⟨rfl, rfl⟩
def f_X5_allWith_L5 (fits : Nat → Int64) (p1 : Int32) : Nat → Nat → Int64 → Int64
  | 0, k5, l2_5 => l2_5
  | r5 + 1, k5, l2_5 => f_X5_allWith_L5 fits p1 r5 (k5 + 1) (l2_5 + (if f_X8_has (nI k5) p1 = true then fits k5 else (0 : Int64)))
def f_X5_allWith (fits : Nat → Int64) (p1 : Int32) : Int64 := (f_X5_allWith_L5 fits p1 64 0 0)
set_option maxHeartbeats 4000000 in
set_option maxRecDepth 100000 in
theorem c_X5_allWith (g : GT) (w0 : Wd) (a_ta : Nat) (a_fits : Nat) (a_left : Nat) (a_needs : Nat) (ta_people : Nat) (ta_away : Int32) (ta_unseenWays : Int64) (ta_seenHouses : Int64) (fits : Nat → Int64) (p1 : Int32) (h_ta : w0 a_ta = some (.inr (5, cTa a_fits a_left a_needs (ta_people, ta_away, ta_unseenWays, ta_seenHouses)))) (h_fits : w0 a_fits = some (.inl (g.2.2.1 1, 64, .inr (.inl fits)))) : CT g yX5_allWith cX5_allWith 5 (some .long) 1 21 0 0 w0 [.ref a_ta, .int p1] (fun r w2 => r = some (.long (f_X5_allWith fits p1)) ∧ w0 = w2) := by
  refine CT.of (own := RX5) (by decide +kernel) rfl (Nat.le_of_ble_eq_true rfl) (fun X hC hR hI => ?_)
  show V g X 5 w0 0 0 0 [(0, .ref a_ta), (1, .int p1)] []
  refine vv_lconst (v := 0) hC dX5_allWith_0 (by decide) ?_
  refine vv_lstore_n (lv2 := [(2, .long 0), (0, .ref a_ta), (1, .int p1)]) hC dX5_allWith_1 rfl (by decide) rfl ?_
  refine vv_iconst (v := 0) hC dX5_allWith_2 (by decide) ?_
  refine vv_istore (lv2 := [(4, .int 0), (2, .long 0), (0, .ref a_ta), (1, .int p1)]) hC dX5_allWith_3 (by decide) rfl ?_
  have hL3 : ∀ (r5 k5 : Nat) (l2_5 : Int64) (out : Int64), k5 + r5 = 64 → out = f_X5_allWith_L5 fits p1 r5 k5 l2_5 → V g X 5 w0 0 0 44 [(0, .ref a_ta), (1, .int p1), (2, .long out)] [] → V g X 5 w0 0 0 5 [(0, .ref a_ta), (1, .int p1), (2, .long l2_5), (4, .int (nI k5))] [] := by
    intro r5
    induction r5 with
    | zero =>
      intro k5 l2_5 out hb ho hk
      refine vv_iload hC 3 dX5_allWith_5 rfl ?_
      refine vv_aload_n hC 0 dX5_allWith_7 rfl rfl ?_
      refine vv_get (v := .ref a_fits) hC fl_X5_9 dX5_allWith_8 h_ta rfl ?_
      refine vv_alen_lald (v := nI 64) hC dX5_allWith_11 h_fits rfl ?_
      refine vv_topi (64) (by decide) ?_
      refine vv_icmp_ge hC 44 dX5_allWith_12 (by decide) (fun c => ?_) (fun c => False.elim (c ((nI_le_ (a := 64) (b := k5) (by omega) (by omega)).mpr (by omega))))
      refine vv_lv [0, 1, 2] rfl ?_
      have ho := ho.trans (by first | (simp only [f_X5_allWith_L5]; done) | rfl | (simp only [f_X5_allWith_L5]; rfl) : _ = l2_5)
      subst ho
      exact hk
    | succ r5 ih =>
      intro k5 l2_5 out hb ho hk
      refine vv_iload hC 3 dX5_allWith_5 rfl ?_
      refine vv_aload_n hC 0 dX5_allWith_7 rfl rfl ?_
      refine vv_get (v := .ref a_fits) hC fl_X5_9 dX5_allWith_8 h_ta rfl ?_
      refine vv_alen_lald (v := nI 64) hC dX5_allWith_11 h_fits rfl ?_
      refine vv_topi (64) (by decide) ?_
      refine vv_icmp_ge hC 44 dX5_allWith_12 (by decide) (fun c => absurd ((nI_le_ (a := 64) (b := k5) (by omega) (by omega)).mp c) (by first | omega | decide)) (fun c => ?_)
      refine vv_lload_n hC 2 dX5_allWith_15 rfl rfl ?_
      refine vv_iload hC 3 dX5_allWith_16 rfl ?_
      refine vv_iload_n hC 1 dX5_allWith_18 rfl rfl ?_
      refine vv_callSN hC dX5_allWith_19 md_X8_has lk_n_X5_70 lk_t_X8_has (As := [.int (nI k5), .int p1]) (rest := [.long l2_5]) (c_X8_has g w0 (nI k5) p1) rfl rfl (Nat.le_of_ble_eq_true rfl) ⟨by decide, by decide, by decide, by decide⟩ (fun r w9 hq => ?_)
      obtain ⟨rfl, rfl⟩ := hq
      show V g X 5 w0 0 0 22 [(0, .ref a_ta), (1, .int p1), (2, .long l2_5), (4, .int (nI k5))] [.int (bI (f_X8_has (nI k5) p1)), .long l2_5]
      have hJ2 : V g X 5 w0 0 0 36 [(0, .ref a_ta), (1, .int p1), (2, .long l2_5), (4, .int (nI k5))] [.long (if f_X8_has (nI k5) p1 = true then fits k5 else (0 : Int64)), .long l2_5] := by
        refine vv_ladd hC dX5_allWith_36 ?_
        refine vv_lstore_n (lv2 := [(2, .long (l2_5 + (if f_X8_has (nI k5) p1 = true then fits k5 else (0 : Int64)))), (0, .ref a_ta), (1, .int p1), (4, .int (nI k5))]) hC dX5_allWith_37 rfl (by decide) rfl ?_
        refine vv_iinc (lv2 := [(4, .int (nI (k5 + 1))), (2, .long (l2_5 + (if f_X8_has (nI k5) p1 = true then fits k5 else (0 : Int64)))), (0, .ref a_ta), (1, .int p1)]) hC 3 dX5_allWith_38 rfl (nI_add k5 1) (by decide) rfl ?_
        refine vv_goto hC 5 dX5_allWith_41 (by decide) ?_
        refine vv_lv [2, 3, 1, 0] rfl ?_
        exact ih (k5 + 1) (l2_5 + (if f_X8_has (nI k5) p1 = true then fits k5 else (0 : Int64))) out (by omega) (ho.trans (by first | (simp only [f_X5_allWith_L5]; done) | rfl | (simp only [f_X5_allWith_L5]; rfl))) hk
      refine vv_if_eq hC 35 dX5_allWith_22 (by decide) (fun c1 => ?_) (fun c1 => ?_)
      · have c1 : ¬ (f_X8_has (nI k5) p1 = true) := bI_f c1
        refine vv_lconst (v := 0) hC dX5_allWith_35 (by decide) ?_
        have hz := hJ2
        try simp only [if_neg c1] at hz
        first | exact hz | (simp only [if_neg c1]; exact hz)
      · have c1 : f_X8_has (nI k5) p1 = true := bI_t c1
        refine vv_aload_n hC 0 dX5_allWith_25 rfl rfl ?_
        refine vv_get (v := .ref a_fits) hC fl_X5_9 dX5_allWith_26 h_ta rfl ?_
        refine vv_iload hC 3 dX5_allWith_29 rfl ?_
        refine vv_laldn (t := k5) hC dX5_allWith_31 h_fits (by omega) (by decide) ?_
        refine vv_goto hC 36 dX5_allWith_32 (by decide) ?_
        have hz := hJ2
        try simp only [if_pos c1] at hz
        first | exact hz | (simp only [if_pos c1]; exact hz)
  refine vv_lv [2, 3, 1, 0] rfl ?_
  refine hL3 64 0 0 (f_X5_allWith_L5 fits p1 64 0 0) (by omega) rfl ?_
  refine vv_lload_n hC 2 dX5_allWith_44 rfl rfl ?_
  have hf : (f_X5_allWith fits p1) = (f_X5_allWith_L5 fits p1 64 0 0) := by first | (simp only [f_X5_allWith]; done) | rfl | (simp only [f_X5_allWith]; rfl)
  refine vv_lret hC hR rfl dX5_allWith_45 (by omega) (by omega) ?_
  rw [hf]
  exact ⟨rfl, rfl⟩
def f_X5_setCount_L4 (fits : Nat → Int64) : Nat → Nat → Int32 → Int32
  | 0, k4, l1_4 => l1_4
  | r4 + 1, k4, l1_4 => f_X5_setCount_L4 fits r4 (k4 + 1) (l1_4 + bI (if 0 < fits k4 then true else false))
def f_X5_setCount (fits : Nat → Int64) : Int32 := (f_X5_setCount_L4 fits 64 0 0)
set_option maxHeartbeats 4000000 in
set_option maxRecDepth 100000 in
theorem c_X5_setCount (g : GT) (w0 : Wd) (a_ta : Nat) (a_fits : Nat) (a_left : Nat) (a_needs : Nat) (ta_people : Nat) (ta_away : Int32) (ta_unseenWays : Int64) (ta_seenHouses : Int64) (fits : Nat → Int64) (h_ta : w0 a_ta = some (.inr (5, cTa a_fits a_left a_needs (ta_people, ta_away, ta_unseenWays, ta_seenHouses)))) (h_fits : w0 a_fits = some (.inl (g.2.2.1 1, 64, .inr (.inl fits)))) : CT g yX5_setCount cX5_setCount 3 (some .int) 0 0 0 0 w0 [.ref a_ta] (fun r w2 => r = some (.int (f_X5_setCount fits)) ∧ w0 = w2) := by
  refine CT.of (own := RX5) (by decide +kernel) rfl (Nat.le_of_ble_eq_true rfl) (fun X hC hR hI => ?_)
  show V g X 3 w0 0 0 0 [(0, .ref a_ta)] []
  refine vv_iconst (v := 0) hC dX5_setCount_0 (by decide) ?_
  refine vv_istore_n (lv2 := [(1, .int 0), (0, .ref a_ta)]) hC dX5_setCount_1 rfl (by decide) rfl ?_
  refine vv_iconst (v := 0) hC dX5_setCount_2 (by decide) ?_
  refine vv_istore_n (lv2 := [(2, .int 0), (1, .int 0), (0, .ref a_ta)]) hC dX5_setCount_3 rfl (by decide) rfl ?_
  have hL3 : ∀ (r4 k4 : Nat) (l1_4 : Int32) (out : Int32), k4 + r4 = 64 → out = f_X5_setCount_L4 fits r4 k4 l1_4 → V g X 3 w0 0 0 38 [(0, .ref a_ta), (1, .int out)] [] → V g X 3 w0 0 0 4 [(0, .ref a_ta), (1, .int l1_4), (2, .int (nI k4))] [] := by
    intro r4
    induction r4 with
    | zero =>
      intro k4 l1_4 out hb ho hk
      refine vv_iload_n hC 2 dX5_setCount_4 rfl rfl ?_
      refine vv_aload_n hC 0 dX5_setCount_5 rfl rfl ?_
      refine vv_get (v := .ref a_fits) hC fl_X5_9 dX5_setCount_6 h_ta rfl ?_
      refine vv_alen_lald (v := nI 64) hC dX5_setCount_9 h_fits rfl ?_
      refine vv_topi (64) (by decide) ?_
      refine vv_icmp_ge hC 38 dX5_setCount_10 (by decide) (fun c => ?_) (fun c => False.elim (c ((nI_le_ (a := 64) (b := k4) (by omega) (by omega)).mpr (by omega))))
      refine vv_lv [0, 1] rfl ?_
      have ho := ho.trans (by first | (simp only [f_X5_setCount_L4]; done) | rfl | (simp only [f_X5_setCount_L4]; rfl) : _ = l1_4)
      subst ho
      exact hk
    | succ r4 ih =>
      intro k4 l1_4 out hb ho hk
      refine vv_iload_n hC 2 dX5_setCount_4 rfl rfl ?_
      refine vv_aload_n hC 0 dX5_setCount_5 rfl rfl ?_
      refine vv_get (v := .ref a_fits) hC fl_X5_9 dX5_setCount_6 h_ta rfl ?_
      refine vv_alen_lald (v := nI 64) hC dX5_setCount_9 h_fits rfl ?_
      refine vv_topi (64) (by decide) ?_
      refine vv_icmp_ge hC 38 dX5_setCount_10 (by decide) (fun c => absurd ((nI_le_ (a := 64) (b := k4) (by omega) (by omega)).mp c) (by first | omega | decide)) (fun c => ?_)
      refine vv_iload_n hC 1 dX5_setCount_13 rfl rfl ?_
      refine vv_aload_n hC 0 dX5_setCount_14 rfl rfl ?_
      refine vv_get (v := .ref a_fits) hC fl_X5_9 dX5_setCount_15 h_ta rfl ?_
      refine vv_iload_n hC 2 dX5_setCount_18 rfl rfl ?_
      refine vv_laldn (t := k4) hC dX5_setCount_19 h_fits (by omega) (by decide) ?_
      refine vv_lconst (v := 0) hC dX5_setCount_20 (by decide) ?_
      refine vv_lcmp hC dX5_setCount_21 ?_
      have hJ2 : V g X 3 w0 0 0 30 [(0, .ref a_ta), (1, .int l1_4), (2, .int (nI k4))] [.int (bI (if 0 < fits k4 then true else false)), .int l1_4] := by
        refine vv_iadd hC dX5_setCount_30 ?_
        refine vv_istore_n (lv2 := [(1, .int (l1_4 + bI (if 0 < fits k4 then true else false))), (0, .ref a_ta), (2, .int (nI k4))]) hC dX5_setCount_31 rfl (by decide) rfl ?_
        refine vv_iinc (lv2 := [(2, .int (nI (k4 + 1))), (1, .int (l1_4 + bI (if 0 < fits k4 then true else false))), (0, .ref a_ta)]) hC 2 dX5_setCount_32 rfl (nI_add k4 1) (by decide) rfl ?_
        refine vv_goto hC 4 dX5_setCount_35 (by decide) ?_
        refine vv_lv [2, 1, 0] rfl ?_
        exact ih (k4 + 1) (l1_4 + bI (if 0 < fits k4 then true else false)) out (by omega) (ho.trans (by first | (simp only [f_X5_setCount_L4]; done) | rfl | (simp only [f_X5_setCount_L4]; rfl))) hk
      refine vv_if_le hC 29 dX5_setCount_22 (by decide) (fun c1 => ?_) (fun c1 => ?_)
      · have c1 : ¬ (0 < fits k4) := lc_le c1
        refine vv_iconst (v := 0) hC dX5_setCount_29 (by decide) ?_
        have hz := hJ2
        try simp only [if_neg c1] at hz
        first | exact hz | (simp only [if_neg c1]; exact hz)
      · have c1 : 0 < fits k4 := lc_nle c1
        refine vv_iconst (v := 1) hC dX5_setCount_25 (by decide) ?_
        refine vv_goto hC 30 dX5_setCount_26 (by decide) ?_
        have hz := hJ2
        try simp only [if_pos c1] at hz
        first | exact hz | (simp only [if_pos c1]; exact hz)
  refine vv_lv [2, 1, 0] rfl ?_
  refine hL3 64 0 0 (f_X5_setCount_L4 fits 64 0 0) (by omega) rfl ?_
  refine vv_iload_n hC 1 dX5_setCount_38 rfl rfl ?_
  have hf : (f_X5_setCount fits) = (f_X5_setCount_L4 fits 64 0 0) := by first | (simp only [f_X5_setCount]; done) | rfl | (simp only [f_X5_setCount]; rfl)
  refine vv_iret hC hR rfl dX5_setCount_39 (by omega) (by omega) ?_
  rw [hf]
  exact ⟨rfl, rfl⟩
def f_X5_setsWith_L4 (fits : Nat → Int64) (p1 : Int32) : Nat → Nat → Int32 → Int32
  | 0, k4, l2_4 => l2_4
  | r4 + 1, k4, l2_4 => f_X5_setsWith_L4 fits p1 r4 (k4 + 1) (l2_4 + bI (if f_X8_has (nI k4) p1 = true then (if 0 < fits k4 then true else false) else false))
def f_X5_setsWith (fits : Nat → Int64) (p1 : Int32) : Int32 := (f_X5_setsWith_L4 fits p1 64 0 0)
set_option maxHeartbeats 4000000 in
set_option maxRecDepth 100000 in
theorem c_X5_setsWith (g : GT) (w0 : Wd) (a_ta : Nat) (a_fits : Nat) (a_left : Nat) (a_needs : Nat) (ta_people : Nat) (ta_away : Int32) (ta_unseenWays : Int64) (ta_seenHouses : Int64) (fits : Nat → Int64) (p1 : Int32) (h_ta : w0 a_ta = some (.inr (5, cTa a_fits a_left a_needs (ta_people, ta_away, ta_unseenWays, ta_seenHouses)))) (h_fits : w0 a_fits = some (.inl (g.2.2.1 1, 64, .inr (.inl fits)))) : CT g yX5_setsWith cX5_setsWith 4 (some .int) 1 21 0 0 w0 [.ref a_ta, .int p1] (fun r w2 => r = some (.int (f_X5_setsWith fits p1)) ∧ w0 = w2) := by
  refine CT.of (own := RX5) (by decide +kernel) rfl (Nat.le_of_ble_eq_true rfl) (fun X hC hR hI => ?_)
  show V g X 4 w0 0 0 0 [(0, .ref a_ta), (1, .int p1)] []
  refine vv_iconst (v := 0) hC dX5_setsWith_0 (by decide) ?_
  refine vv_istore_n (lv2 := [(2, .int 0), (0, .ref a_ta), (1, .int p1)]) hC dX5_setsWith_1 rfl (by decide) rfl ?_
  refine vv_iconst (v := 0) hC dX5_setsWith_2 (by decide) ?_
  refine vv_istore_n (lv2 := [(3, .int 0), (2, .int 0), (0, .ref a_ta), (1, .int p1)]) hC dX5_setsWith_3 rfl (by decide) rfl ?_
  have hL4 : ∀ (r4 k4 : Nat) (l2_4 : Int32) (out : Int32), k4 + r4 = 64 → out = f_X5_setsWith_L4 fits p1 r4 k4 l2_4 → V g X 4 w0 0 0 46 [(0, .ref a_ta), (1, .int p1), (2, .int out)] [] → V g X 4 w0 0 0 4 [(0, .ref a_ta), (1, .int p1), (2, .int l2_4), (3, .int (nI k4))] [] := by
    intro r4
    induction r4 with
    | zero =>
      intro k4 l2_4 out hb ho hk
      refine vv_iload_n hC 3 dX5_setsWith_4 rfl rfl ?_
      refine vv_aload_n hC 0 dX5_setsWith_5 rfl rfl ?_
      refine vv_get (v := .ref a_fits) hC fl_X5_9 dX5_setsWith_6 h_ta rfl ?_
      refine vv_alen_lald (v := nI 64) hC dX5_setsWith_9 h_fits rfl ?_
      refine vv_topi (64) (by decide) ?_
      refine vv_icmp_ge hC 46 dX5_setsWith_10 (by decide) (fun c => ?_) (fun c => False.elim (c ((nI_le_ (a := 64) (b := k4) (by omega) (by omega)).mpr (by omega))))
      refine vv_lv [0, 1, 2] rfl ?_
      have ho := ho.trans (by first | (simp only [f_X5_setsWith_L4]; done) | rfl | (simp only [f_X5_setsWith_L4]; rfl) : _ = l2_4)
      subst ho
      exact hk
    | succ r4 ih =>
      intro k4 l2_4 out hb ho hk
      refine vv_iload_n hC 3 dX5_setsWith_4 rfl rfl ?_
      refine vv_aload_n hC 0 dX5_setsWith_5 rfl rfl ?_
      refine vv_get (v := .ref a_fits) hC fl_X5_9 dX5_setsWith_6 h_ta rfl ?_
      refine vv_alen_lald (v := nI 64) hC dX5_setsWith_9 h_fits rfl ?_
      refine vv_topi (64) (by decide) ?_
      refine vv_icmp_ge hC 46 dX5_setsWith_10 (by decide) (fun c => absurd ((nI_le_ (a := 64) (b := k4) (by omega) (by omega)).mp c) (by first | omega | decide)) (fun c => ?_)
      refine vv_iload_n hC 2 dX5_setsWith_13 rfl rfl ?_
      refine vv_iload_n hC 3 dX5_setsWith_14 rfl rfl ?_
      refine vv_iload_n hC 1 dX5_setsWith_15 rfl rfl ?_
      refine vv_callSN hC dX5_setsWith_16 md_X8_has lk_n_X5_70 lk_t_X8_has (As := [.int (nI k4), .int p1]) (rest := [.int l2_4]) (c_X8_has g w0 (nI k4) p1) rfl rfl (Nat.le_of_ble_eq_true rfl) ⟨by decide, by decide, by decide, by decide⟩ (fun r w9 hq => ?_)
      obtain ⟨rfl, rfl⟩ := hq
      show V g X 4 w0 0 0 19 [(0, .ref a_ta), (1, .int p1), (2, .int l2_4), (3, .int (nI k4))] [.int (bI (f_X8_has (nI k4) p1)), .int l2_4]
      have hJ2 : V g X 4 w0 0 0 38 [(0, .ref a_ta), (1, .int p1), (2, .int l2_4), (3, .int (nI k4))] [.int (bI (if f_X8_has (nI k4) p1 = true then (if 0 < fits k4 then true else false) else false)), .int l2_4] := by
        refine vv_iadd hC dX5_setsWith_38 ?_
        refine vv_istore_n (lv2 := [(2, .int (l2_4 + bI (if f_X8_has (nI k4) p1 = true then (if 0 < fits k4 then true else false) else false))), (0, .ref a_ta), (1, .int p1), (3, .int (nI k4))]) hC dX5_setsWith_39 rfl (by decide) rfl ?_
        refine vv_iinc (lv2 := [(3, .int (nI (k4 + 1))), (2, .int (l2_4 + bI (if f_X8_has (nI k4) p1 = true then (if 0 < fits k4 then true else false) else false))), (0, .ref a_ta), (1, .int p1)]) hC 3 dX5_setsWith_40 rfl (nI_add k4 1) (by decide) rfl ?_
        refine vv_goto hC 4 dX5_setsWith_43 (by decide) ?_
        refine vv_lv [2, 3, 1, 0] rfl ?_
        exact ih (k4 + 1) (l2_4 + bI (if f_X8_has (nI k4) p1 = true then (if 0 < fits k4 then true else false) else false)) out (by omega) (ho.trans (by first | (simp only [f_X5_setsWith_L4]; done) | rfl | (simp only [f_X5_setsWith_L4]; rfl))) hk
      refine vv_if_eq hC 37 dX5_setsWith_19 (by decide) (fun c1 => ?_) (fun c1 => ?_)
      · have c1 : ¬ (f_X8_has (nI k4) p1 = true) := bI_f c1
        refine vv_iconst (v := 0) hC dX5_setsWith_37 (by decide) ?_
        have hz := hJ2
        try simp only [if_neg c1] at hz
        first | exact hz | (simp only [if_neg c1]; exact hz)
      · have c1 : f_X8_has (nI k4) p1 = true := bI_t c1
        refine vv_aload_n hC 0 dX5_setsWith_22 rfl rfl ?_
        refine vv_get (v := .ref a_fits) hC fl_X5_9 dX5_setsWith_23 h_ta rfl ?_
        refine vv_iload_n hC 3 dX5_setsWith_26 rfl rfl ?_
        refine vv_laldn (t := k4) hC dX5_setsWith_27 h_fits (by omega) (by decide) ?_
        refine vv_lconst (v := 0) hC dX5_setsWith_28 (by decide) ?_
        refine vv_lcmp hC dX5_setsWith_29 ?_
        refine vv_if_le hC 37 dX5_setsWith_30 (by decide) (fun c3 => ?_) (fun c3 => ?_)
        · have c3 : ¬ (0 < fits k4) := lc_le c3
          refine vv_iconst (v := 0) hC dX5_setsWith_37 (by decide) ?_
          have hz := hJ2
          try simp only [if_pos c1, if_neg c3] at hz
          first | exact hz | (simp only [if_pos c1, if_neg c3]; exact hz)
        · have c3 : 0 < fits k4 := lc_nle c3
          refine vv_iconst (v := 1) hC dX5_setsWith_33 (by decide) ?_
          refine vv_goto hC 38 dX5_setsWith_34 (by decide) ?_
          have hz := hJ2
          try simp only [if_pos c1, if_pos c3] at hz
          first | exact hz | (simp only [if_pos c1, if_pos c3]; exact hz)
  refine vv_lv [2, 3, 1, 0] rfl ?_
  refine hL4 64 0 0 (f_X5_setsWith_L4 fits p1 64 0 0) (by omega) rfl ?_
  refine vv_iload_n hC 2 dX5_setsWith_46 rfl rfl ?_
  have hf : (f_X5_setsWith fits p1) = (f_X5_setsWith_L4 fits p1 64 0 0) := by first | (simp only [f_X5_setsWith]; done) | rfl | (simp only [f_X5_setsWith]; rfl)
  refine vv_iret hC hR rfl dX5_setsWith_47 (by omega) (by omega) ?_
  rw [hf]
  exact ⟨rfl, rfl⟩
def f_X5_setNumbered_L4 (fits : Nat → Int64) (p1 : Int32) : Nat → Nat → Int32 → Int32
  | 0, k4, l2_4 => (-9)
  | r4 + 1, k4, l2_4 => (if 0 < fits k4 then (if l2_4 = p1 then nI k4 else f_X5_setNumbered_L4 fits p1 r4 (k4 + 1) (l2_4 + 1)) else f_X5_setNumbered_L4 fits p1 r4 (k4 + 1) l2_4)
def f_X5_setNumbered (fits : Nat → Int64) (p1 : Int32) : Int32 := f_X5_setNumbered_L4 fits p1 64 0 0
set_option maxHeartbeats 4000000 in
set_option maxRecDepth 100000 in
theorem c_X5_setNumbered (g : GT) (w0 : Wd) (a_ta : Nat) (a_fits : Nat) (a_left : Nat) (a_needs : Nat) (ta_people : Nat) (ta_away : Int32) (ta_unseenWays : Int64) (ta_seenHouses : Int64) (fits : Nat → Int64) (p1 : Int32) (h_ta : w0 a_ta = some (.inr (5, cTa a_fits a_left a_needs (ta_people, ta_away, ta_unseenWays, ta_seenHouses)))) (h_fits : w0 a_fits = some (.inl (g.2.2.1 1, 64, .inr (.inl fits)))) : CT g yX5_setNumbered cX5_setNumbered 4 (some .int) 0 0 0 0 w0 [.ref a_ta, .int p1] (fun r w2 => r = some (.int (f_X5_setNumbered fits p1)) ∧ w0 = w2) := by
  refine CT.of (own := RX5) (by decide +kernel) rfl (Nat.le_of_ble_eq_true rfl) (fun X hC hR hI => ?_)
  show V g X 4 w0 0 0 0 [(0, .ref a_ta), (1, .int p1)] []
  refine vv_iconst (v := 0) hC dX5_setNumbered_0 (by decide) ?_
  refine vv_istore_n (lv2 := [(2, .int 0), (0, .ref a_ta), (1, .int p1)]) hC dX5_setNumbered_1 rfl (by decide) rfl ?_
  refine vv_iconst (v := 0) hC dX5_setNumbered_2 (by decide) ?_
  refine vv_istore_n (lv2 := [(3, .int 0), (2, .int 0), (0, .ref a_ta), (1, .int p1)]) hC dX5_setNumbered_3 rfl (by decide) rfl ?_
  have hL3 : ∀ (r4 k4 : Nat) (l2_4 : Int32), k4 + r4 = 64 → (f_X5_setNumbered fits p1) = f_X5_setNumbered_L4 fits p1 r4 k4 l2_4 → V g X 4 w0 0 0 4 [(0, .ref a_ta), (1, .int p1), (2, .int l2_4), (3, .int (nI k4))] [] := by
    intro r4
    induction r4 with
    | zero =>
      intro k4 l2_4 hb ho 
      refine vv_iload_n hC 3 dX5_setNumbered_4 rfl rfl ?_
      refine vv_aload_n hC 0 dX5_setNumbered_5 rfl rfl ?_
      refine vv_get (v := .ref a_fits) hC fl_X5_9 dX5_setNumbered_6 h_ta rfl ?_
      refine vv_alen_lald (v := nI 64) hC dX5_setNumbered_9 h_fits rfl ?_
      refine vv_topi (64) (by decide) ?_
      refine vv_icmp_ge hC 40 dX5_setNumbered_10 (by decide) (fun c => ?_) (fun c => False.elim (c ((nI_le_ (a := 64) (b := k4) (by omega) (by omega)).mpr (by omega))))
      refine vv_bipush (v := (-9)) hC dX5_setNumbered_40 (by decide) ?_
      have hf : (f_X5_setNumbered fits p1) = (-9) := ho.trans (by first | (simp only [f_X5_setNumbered_L4]; done) | rfl | (simp only [f_X5_setNumbered_L4]; rfl))
      refine vv_iret hC hR rfl dX5_setNumbered_42 (by omega) (by omega) ?_
      rw [hf]
      exact ⟨rfl, rfl⟩
    | succ r4 ih =>
      intro k4 l2_4 hb ho 
      refine vv_iload_n hC 3 dX5_setNumbered_4 rfl rfl ?_
      refine vv_aload_n hC 0 dX5_setNumbered_5 rfl rfl ?_
      refine vv_get (v := .ref a_fits) hC fl_X5_9 dX5_setNumbered_6 h_ta rfl ?_
      refine vv_alen_lald (v := nI 64) hC dX5_setNumbered_9 h_fits rfl ?_
      refine vv_topi (64) (by decide) ?_
      refine vv_icmp_ge hC 40 dX5_setNumbered_10 (by decide) (fun c => absurd ((nI_le_ (a := 64) (b := k4) (by omega) (by omega)).mp c) (by first | omega | decide)) (fun c => ?_)
      refine vv_aload_n hC 0 dX5_setNumbered_13 rfl rfl ?_
      refine vv_get (v := .ref a_fits) hC fl_X5_9 dX5_setNumbered_14 h_ta rfl ?_
      refine vv_iload_n hC 3 dX5_setNumbered_17 rfl rfl ?_
      refine vv_laldn (t := k4) hC dX5_setNumbered_18 h_fits (by omega) (by decide) ?_
      refine vv_lconst (v := 0) hC dX5_setNumbered_19 (by decide) ?_
      refine vv_lcmp hC dX5_setNumbered_20 ?_
      refine vv_if_le hC 34 dX5_setNumbered_21 (by decide) (fun c1 => ?_) (fun c1 => ?_)
      · have c1 : ¬ (0 < fits k4) := lc_le c1
        refine vv_iinc (lv2 := [(3, .int (nI (k4 + 1))), (0, .ref a_ta), (1, .int p1), (2, .int l2_4)]) hC 3 dX5_setNumbered_34 rfl (nI_add k4 1) (by decide) rfl ?_
        refine vv_goto hC 4 dX5_setNumbered_37 (by decide) ?_
        refine vv_lv [1, 2, 3, 0] rfl ?_
        exact ih (k4 + 1) l2_4 (by omega) (ho.trans (by first | (simp only [f_X5_setNumbered_L4, if_neg c1]; done) | rfl | (simp only [f_X5_setNumbered_L4, if_neg c1]; rfl)))
      · have c1 : 0 < fits k4 := lc_nle c1
        refine vv_iload_n hC 2 dX5_setNumbered_24 rfl rfl ?_
        refine vv_iinc (lv2 := [(2, .int (l2_4 + 1)), (0, .ref a_ta), (1, .int p1), (3, .int (nI k4))]) hC 2 dX5_setNumbered_25 rfl rfl (by decide) rfl ?_
        refine vv_iload_n hC 2 dX5_setNumbered_28 rfl rfl ?_
        refine vv_icmp_ne hC 34 dX5_setNumbered_29 (by decide) (fun c2 => ?_) (fun c2 => ?_)
        · have c2 : ¬ (l2_4 = p1) := c2
          refine vv_iinc (lv2 := [(3, .int (nI (k4 + 1))), (2, .int (l2_4 + 1)), (0, .ref a_ta), (1, .int p1)]) hC 3 dX5_setNumbered_34 rfl (nI_add k4 1) (by decide) rfl ?_
          refine vv_goto hC 4 dX5_setNumbered_37 (by decide) ?_
          refine vv_lv [2, 3, 1, 0] rfl ?_
          exact ih (k4 + 1) (l2_4 + 1) (by omega) (ho.trans (by first | (simp only [f_X5_setNumbered_L4, if_pos c1, if_neg c2]; done) | rfl | (simp only [f_X5_setNumbered_L4, if_pos c1, if_neg c2]; rfl)))
        · have c2 : l2_4 = p1 := c2
          refine vv_iload_n hC 3 dX5_setNumbered_32 rfl rfl ?_
          have hf : (f_X5_setNumbered fits p1) = nI k4 := ho.trans (by first | (simp only [f_X5_setNumbered_L4, if_pos c1, if_pos c2]; done) | rfl | (simp only [f_X5_setNumbered_L4, if_pos c1, if_pos c2]; rfl))
          refine vv_iret hC hR rfl dX5_setNumbered_33 (by omega) (by omega) ?_
          rw [hf]
          exact ⟨rfl, rfl⟩
  refine vv_lv [2, 3, 1, 0] rfl ?_
  exact hL3 64 0 0 (by omega) (by first | (simp only [f_X5_setNumbered]; done) | rfl | (simp only [f_X5_setNumbered]; rfl))
def f_X5_inAll_L10 (fits : Nat → Int64) : Nat → Nat → Int32 → Int32
  | 0, k10, l1_10 => l1_10
  | r10 + 1, k10, l1_10 => f_X5_inAll_L10 fits r10 (k10 + 1) (l1_10 &&& (if 0 < fits k10 then nI k10 else (-1 : Int32)))
def f_X5_inAll (ta_people : Nat) (fits : Nat → Int64) : Int32 := (f_X5_inAll_L10 fits 64 0 (f_X8_below (nI ta_people)))
set_option maxHeartbeats 4000000 in
set_option maxRecDepth 100000 in
theorem c_X5_inAll (g : GT) (w0 : Wd) (a_ta : Nat) (a_fits : Nat) (a_left : Nat) (a_needs : Nat) (ta_people : Nat) (ta_away : Int32) (ta_unseenWays : Int64) (ta_seenHouses : Int64) (fits : Nat → Int64) (h_ta : w0 a_ta = some (.inr (5, cTa a_fits a_left a_needs (ta_people, ta_away, ta_unseenWays, ta_seenHouses)))) (h_fits : w0 a_fits = some (.inl (g.2.2.1 1, 64, .inr (.inl fits)))) : CT g yX5_inAll cX5_inAll 3 (some .int) 1 20 0 0 w0 [.ref a_ta] (fun r w2 => r = some (.int (f_X5_inAll ta_people fits)) ∧ w0 = w2) := by
  refine CT.of (own := RX5) (by decide +kernel) rfl (Nat.le_of_ble_eq_true rfl) (fun X hC hR hI => ?_)
  show V g X 3 w0 0 0 0 [(0, .ref a_ta)] []
  refine vv_aload_n hC 0 dX5_inAll_0 rfl rfl ?_
  refine vv_get (v := .int (nI ta_people)) hC fl_X5_22 dX5_inAll_1 h_ta rfl ?_
  refine vv_callSN hC dX5_inAll_4 md_X8_below lk_n_X5_108 lk_t_X8_below (As := [.int (nI ta_people)]) (rest := []) (c_X8_below g w0 (nI ta_people)) rfl rfl (Nat.le_of_ble_eq_true rfl) ⟨by decide, by decide, by decide, by decide⟩ (fun r w9 hq => ?_)
  obtain ⟨rfl, rfl⟩ := hq
  show V g X 3 w0 0 0 7 [(0, .ref a_ta)] [.int (f_X8_below (nI ta_people))]
  refine vv_istore_n (lv2 := [(1, .int (f_X8_below (nI ta_people))), (0, .ref a_ta)]) hC dX5_inAll_7 rfl (by decide) rfl ?_
  refine vv_iconst (v := 0) hC dX5_inAll_8 (by decide) ?_
  refine vv_istore_n (lv2 := [(2, .int 0), (1, .int (f_X8_below (nI ta_people))), (0, .ref a_ta)]) hC dX5_inAll_9 rfl (by decide) rfl ?_
  have hL3 : ∀ (r10 k10 : Nat) (l1_10 : Int32) (out : Int32), k10 + r10 = 64 → out = f_X5_inAll_L10 fits r10 k10 l1_10 → V g X 3 w0 0 0 44 [(0, .ref a_ta), (1, .int out)] [] → V g X 3 w0 0 0 10 [(0, .ref a_ta), (1, .int l1_10), (2, .int (nI k10))] [] := by
    intro r10
    induction r10 with
    | zero =>
      intro k10 l1_10 out hb ho hk
      refine vv_iload_n hC 2 dX5_inAll_10 rfl rfl ?_
      refine vv_aload_n hC 0 dX5_inAll_11 rfl rfl ?_
      refine vv_get (v := .ref a_fits) hC fl_X5_9 dX5_inAll_12 h_ta rfl ?_
      refine vv_alen_lald (v := nI 64) hC dX5_inAll_15 h_fits rfl ?_
      refine vv_topi (64) (by decide) ?_
      refine vv_icmp_ge hC 44 dX5_inAll_16 (by decide) (fun c => ?_) (fun c => False.elim (c ((nI_le_ (a := 64) (b := k10) (by omega) (by omega)).mpr (by omega))))
      refine vv_lv [0, 1] rfl ?_
      have ho := ho.trans (by first | (simp only [f_X5_inAll_L10]; done) | rfl | (simp only [f_X5_inAll_L10]; rfl) : _ = l1_10)
      subst ho
      exact hk
    | succ r10 ih =>
      intro k10 l1_10 out hb ho hk
      refine vv_iload_n hC 2 dX5_inAll_10 rfl rfl ?_
      refine vv_aload_n hC 0 dX5_inAll_11 rfl rfl ?_
      refine vv_get (v := .ref a_fits) hC fl_X5_9 dX5_inAll_12 h_ta rfl ?_
      refine vv_alen_lald (v := nI 64) hC dX5_inAll_15 h_fits rfl ?_
      refine vv_topi (64) (by decide) ?_
      refine vv_icmp_ge hC 44 dX5_inAll_16 (by decide) (fun c => absurd ((nI_le_ (a := 64) (b := k10) (by omega) (by omega)).mp c) (by first | omega | decide)) (fun c => ?_)
      refine vv_iload_n hC 1 dX5_inAll_19 rfl rfl ?_
      refine vv_aload_n hC 0 dX5_inAll_20 rfl rfl ?_
      refine vv_get (v := .ref a_fits) hC fl_X5_9 dX5_inAll_21 h_ta rfl ?_
      refine vv_iload_n hC 2 dX5_inAll_24 rfl rfl ?_
      refine vv_laldn (t := k10) hC dX5_inAll_25 h_fits (by omega) (by decide) ?_
      refine vv_lconst (v := 0) hC dX5_inAll_26 (by decide) ?_
      refine vv_lcmp hC dX5_inAll_27 ?_
      have hJ2 : V g X 3 w0 0 0 36 [(0, .ref a_ta), (1, .int l1_10), (2, .int (nI k10))] [.int (if 0 < fits k10 then nI k10 else (-1 : Int32)), .int l1_10] := by
        refine vv_iand hC dX5_inAll_36 ?_
        refine vv_istore_n (lv2 := [(1, .int (l1_10 &&& (if 0 < fits k10 then nI k10 else (-1 : Int32)))), (0, .ref a_ta), (2, .int (nI k10))]) hC dX5_inAll_37 rfl (by decide) rfl ?_
        refine vv_iinc (lv2 := [(2, .int (nI (k10 + 1))), (1, .int (l1_10 &&& (if 0 < fits k10 then nI k10 else (-1 : Int32)))), (0, .ref a_ta)]) hC 2 dX5_inAll_38 rfl (nI_add k10 1) (by decide) rfl ?_
        refine vv_goto hC 10 dX5_inAll_41 (by decide) ?_
        refine vv_lv [2, 1, 0] rfl ?_
        exact ih (k10 + 1) (l1_10 &&& (if 0 < fits k10 then nI k10 else (-1 : Int32))) out (by omega) (ho.trans (by first | (simp only [f_X5_inAll_L10]; done) | rfl | (simp only [f_X5_inAll_L10]; rfl))) hk
      refine vv_if_le hC 35 dX5_inAll_28 (by decide) (fun c1 => ?_) (fun c1 => ?_)
      · have c1 : ¬ (0 < fits k10) := lc_le c1
        refine vv_iconst (v := (-1)) hC dX5_inAll_35 (by decide) ?_
        have hz := hJ2
        try simp only [if_neg c1] at hz
        first | exact hz | (simp only [if_neg c1]; exact hz)
      · have c1 : 0 < fits k10 := lc_nle c1
        refine vv_iload_n hC 2 dX5_inAll_31 rfl rfl ?_
        refine vv_goto hC 36 dX5_inAll_32 (by decide) ?_
        have hz := hJ2
        try simp only [if_pos c1] at hz
        first | exact hz | (simp only [if_pos c1]; exact hz)
  refine vv_lv [2, 1, 0] rfl ?_
  refine hL3 64 0 (f_X8_below (nI ta_people)) (f_X5_inAll_L10 fits 64 0 (f_X8_below (nI ta_people))) (by omega) rfl ?_
  refine vv_iload_n hC 1 dX5_inAll_44 rfl rfl ?_
  have hf : (f_X5_inAll ta_people fits) = (f_X5_inAll_L10 fits 64 0 (f_X8_below (nI ta_people))) := by first | (simp only [f_X5_inAll]; done) | rfl | (simp only [f_X5_inAll]; rfl)
  refine vv_iret hC hR rfl dX5_inAll_45 (by omega) (by omega) ?_
  rw [hf]
  exact ⟨rfl, rfl⟩
def f_X5_inSome_L4 (fits : Nat → Int64) : Nat → Nat → Int32 → Int32
  | 0, k4, l1_4 => l1_4
  | r4 + 1, k4, l1_4 => f_X5_inSome_L4 fits r4 (k4 + 1) (l1_4 ||| nI (if 0 < fits k4 then k4 else 0))
def f_X5_inSome (fits : Nat → Int64) : Int32 := (f_X5_inSome_L4 fits 64 0 0)
set_option maxHeartbeats 4000000 in
set_option maxRecDepth 100000 in
theorem c_X5_inSome (g : GT) (w0 : Wd) (a_ta : Nat) (a_fits : Nat) (a_left : Nat) (a_needs : Nat) (ta_people : Nat) (ta_away : Int32) (ta_unseenWays : Int64) (ta_seenHouses : Int64) (fits : Nat → Int64) (h_ta : w0 a_ta = some (.inr (5, cTa a_fits a_left a_needs (ta_people, ta_away, ta_unseenWays, ta_seenHouses)))) (h_fits : w0 a_fits = some (.inl (g.2.2.1 1, 64, .inr (.inl fits)))) : CT g yX5_inSome cX5_inSome 3 (some .int) 0 0 0 0 w0 [.ref a_ta] (fun r w2 => r = some (.int (f_X5_inSome fits)) ∧ w0 = w2) := by
  refine CT.of (own := RX5) (by decide +kernel) rfl (Nat.le_of_ble_eq_true rfl) (fun X hC hR hI => ?_)
  show V g X 3 w0 0 0 0 [(0, .ref a_ta)] []
  refine vv_iconst (v := 0) hC dX5_inSome_0 (by decide) ?_
  refine vv_istore_n (lv2 := [(1, .int 0), (0, .ref a_ta)]) hC dX5_inSome_1 rfl (by decide) rfl ?_
  refine vv_iconst (v := 0) hC dX5_inSome_2 (by decide) ?_
  refine vv_istore_n (lv2 := [(2, .int 0), (1, .int 0), (0, .ref a_ta)]) hC dX5_inSome_3 rfl (by decide) rfl ?_
  have hL3 : ∀ (r4 k4 : Nat) (l1_4 : Int32) (out : Int32), k4 + r4 = 64 → out = f_X5_inSome_L4 fits r4 k4 l1_4 → V g X 3 w0 0 0 38 [(0, .ref a_ta), (1, .int out)] [] → V g X 3 w0 0 0 4 [(0, .ref a_ta), (1, .int l1_4), (2, .int (nI k4))] [] := by
    intro r4
    induction r4 with
    | zero =>
      intro k4 l1_4 out hb ho hk
      refine vv_iload_n hC 2 dX5_inSome_4 rfl rfl ?_
      refine vv_aload_n hC 0 dX5_inSome_5 rfl rfl ?_
      refine vv_get (v := .ref a_fits) hC fl_X5_9 dX5_inSome_6 h_ta rfl ?_
      refine vv_alen_lald (v := nI 64) hC dX5_inSome_9 h_fits rfl ?_
      refine vv_topi (64) (by decide) ?_
      refine vv_icmp_ge hC 38 dX5_inSome_10 (by decide) (fun c => ?_) (fun c => False.elim (c ((nI_le_ (a := 64) (b := k4) (by omega) (by omega)).mpr (by omega))))
      refine vv_lv [0, 1] rfl ?_
      have ho := ho.trans (by first | (simp only [f_X5_inSome_L4]; done) | rfl | (simp only [f_X5_inSome_L4]; rfl) : _ = l1_4)
      subst ho
      exact hk
    | succ r4 ih =>
      intro k4 l1_4 out hb ho hk
      refine vv_iload_n hC 2 dX5_inSome_4 rfl rfl ?_
      refine vv_aload_n hC 0 dX5_inSome_5 rfl rfl ?_
      refine vv_get (v := .ref a_fits) hC fl_X5_9 dX5_inSome_6 h_ta rfl ?_
      refine vv_alen_lald (v := nI 64) hC dX5_inSome_9 h_fits rfl ?_
      refine vv_topi (64) (by decide) ?_
      refine vv_icmp_ge hC 38 dX5_inSome_10 (by decide) (fun c => absurd ((nI_le_ (a := 64) (b := k4) (by omega) (by omega)).mp c) (by first | omega | decide)) (fun c => ?_)
      refine vv_iload_n hC 1 dX5_inSome_13 rfl rfl ?_
      refine vv_aload_n hC 0 dX5_inSome_14 rfl rfl ?_
      refine vv_get (v := .ref a_fits) hC fl_X5_9 dX5_inSome_15 h_ta rfl ?_
      refine vv_iload_n hC 2 dX5_inSome_18 rfl rfl ?_
      refine vv_laldn (t := k4) hC dX5_inSome_19 h_fits (by omega) (by decide) ?_
      refine vv_lconst (v := 0) hC dX5_inSome_20 (by decide) ?_
      refine vv_lcmp hC dX5_inSome_21 ?_
      have hJ2 : V g X 3 w0 0 0 30 [(0, .ref a_ta), (1, .int l1_4), (2, .int (nI k4))] [.int (nI (if 0 < fits k4 then k4 else 0)), .int l1_4] := by
        refine vv_ior hC dX5_inSome_30 ?_
        refine vv_istore_n (lv2 := [(1, .int (l1_4 ||| nI (if 0 < fits k4 then k4 else 0))), (0, .ref a_ta), (2, .int (nI k4))]) hC dX5_inSome_31 rfl (by decide) rfl ?_
        refine vv_iinc (lv2 := [(2, .int (nI (k4 + 1))), (1, .int (l1_4 ||| nI (if 0 < fits k4 then k4 else 0))), (0, .ref a_ta)]) hC 2 dX5_inSome_32 rfl (nI_add k4 1) (by decide) rfl ?_
        refine vv_goto hC 4 dX5_inSome_35 (by decide) ?_
        refine vv_lv [2, 1, 0] rfl ?_
        exact ih (k4 + 1) (l1_4 ||| nI (if 0 < fits k4 then k4 else 0)) out (by omega) (ho.trans (by first | (simp only [f_X5_inSome_L4]; done) | rfl | (simp only [f_X5_inSome_L4]; rfl))) hk
      refine vv_if_le hC 29 dX5_inSome_22 (by decide) (fun c1 => ?_) (fun c1 => ?_)
      · have c1 : ¬ (0 < fits k4) := lc_le c1
        refine vv_iconst (v := 0) hC dX5_inSome_29 (by decide) ?_
        have hz := hJ2
        try simp only [if_neg c1] at hz
        first | exact hz | (simp only [if_neg c1]; exact hz)
      · have c1 : 0 < fits k4 := lc_nle c1
        refine vv_iload_n hC 2 dX5_inSome_25 rfl rfl ?_
        refine vv_goto hC 30 dX5_inSome_26 (by decide) ?_
        have hz := hJ2
        try simp only [if_pos c1] at hz
        first | exact hz | (simp only [if_pos c1]; exact hz)
  refine vv_lv [2, 1, 0] rfl ?_
  refine hL3 64 0 0 (f_X5_inSome_L4 fits 64 0 0) (by omega) rfl ?_
  refine vv_iload_n hC 1 dX5_inSome_38 rfl rfl ?_
  have hf : (f_X5_inSome fits) = (f_X5_inSome_L4 fits 64 0 0) := by first | (simp only [f_X5_inSome]; done) | rfl | (simp only [f_X5_inSome]; rfl)
  refine vv_iret hC hR rfl dX5_inSome_39 (by omega) (by omega) ?_
  rw [hf]
  exact ⟨rfl, rfl⟩
def f_X5_bestSpoon_x1 (fits : Nat → Int64) (p1 : Int32) (k15 : Nat) (l4_15 : Int32) : Int32 := (if f_X8_has p1 (nI k15) = true then (if l4_15 ≤ (if f_X5_setsWith fits (nI k15) < (f_X5_setCount fits - f_X5_setsWith fits (nI k15)) then (f_X5_setCount fits - f_X5_setsWith fits (nI k15)) else f_X5_setsWith fits (nI k15)) then l4_15 else (if f_X5_setsWith fits (nI k15) < (f_X5_setCount fits - f_X5_setsWith fits (nI k15)) then (f_X5_setCount fits - f_X5_setsWith fits (nI k15)) else f_X5_setsWith fits (nI k15))) else l4_15)
def f_X5_bestSpoon_L15 (fits : Nat → Int64) (p1 : Int32) : Nat → Nat → Int32 → Int32 → Int32 × Int32
  | 0, k15, l3_15, l4_15 => (l3_15, l4_15)
  | r15 + 1, k15, l3_15, l4_15 => f_X5_bestSpoon_L15 fits p1 r15 (k15 + 1) (if f_X8_has p1 (nI k15) = true then (if l4_15 ≤ (if f_X5_setsWith fits (nI k15) < (f_X5_setCount fits - f_X5_setsWith fits (nI k15)) then (f_X5_setCount fits - f_X5_setsWith fits (nI k15)) else f_X5_setsWith fits (nI k15)) then l3_15 else nI k15) else l3_15) (f_X5_bestSpoon_x1 fits p1 k15 l4_15)
def f_X5_bestSpoon (ta_people : Nat) (fits : Nat → Int64) (p1 : Int32) : Int32 := (f_X5_bestSpoon_L15 fits p1 ta_people 0 (-9) 65).1
set_option maxHeartbeats 4000000 in
set_option maxRecDepth 100000 in
theorem c_X5_bestSpoon (g : GT) (w0 : Wd) (a_ta : Nat) (a_fits : Nat) (a_left : Nat) (a_needs : Nat) (ta_people : Nat) (ta_away : Int32) (ta_unseenWays : Int64) (ta_seenHouses : Int64) (fits : Nat → Int64) (p1 : Int32) (htp : ta_people ≤ 6) (h_ta : w0 a_ta = some (.inr (5, cTa a_fits a_left a_needs (ta_people, ta_away, ta_unseenWays, ta_seenHouses)))) (h_fits : w0 a_fits = some (.inl (g.2.2.1 1, 64, .inr (.inl fits)))) : CT g yX5_bestSpoon cX5_bestSpoon 8 (some .int) 2 44 0 0 w0 [.ref a_ta, .int p1] (fun r w2 => r = some (.int (f_X5_bestSpoon ta_people fits p1)) ∧ w0 = w2) := by
  refine CT.of (own := RX5) (by decide +kernel) rfl (Nat.le_of_ble_eq_true rfl) (fun X hC hR hI => ?_)
  show V g X 8 w0 0 0 0 [(0, .ref a_ta), (1, .int p1)] []
  refine vv_aload_n hC 0 dX5_bestSpoon_0 rfl rfl ?_
  refine vv_callV hC dX5_bestSpoon_1 md_X5_setCount lk_m_X5_111 lk_i_X5_setCount lk_s_X5_setCount h_ta rfl (As := []) (rest := []) (c_X5_setCount g w0 a_ta a_fits a_left a_needs ta_people ta_away ta_unseenWays ta_seenHouses fits h_ta h_fits) rfl rfl (Nat.le_of_ble_eq_true rfl) ⟨by decide, by decide, by decide, by decide⟩ (fun r w9 hq => ?_)
  obtain ⟨rfl, rfl⟩ := hq
  show V g X 8 w0 0 0 4 [(0, .ref a_ta), (1, .int p1)] [.int (f_X5_setCount fits)]
  refine vv_istore_n (lv2 := [(2, .int (f_X5_setCount fits)), (0, .ref a_ta), (1, .int p1)]) hC dX5_bestSpoon_4 rfl (by decide) rfl ?_
  refine vv_bipush (v := (-9)) hC dX5_bestSpoon_5 (by decide) ?_
  refine vv_istore_n (lv2 := [(3, .int (-9)), (2, .int (f_X5_setCount fits)), (0, .ref a_ta), (1, .int p1)]) hC dX5_bestSpoon_7 rfl (by decide) rfl ?_
  refine vv_bipush (v := (65)) hC dX5_bestSpoon_8 (by decide) ?_
  refine vv_istore (lv2 := [(4, .int 65), (3, .int (-9)), (2, .int (f_X5_setCount fits)), (0, .ref a_ta), (1, .int p1)]) hC dX5_bestSpoon_10 (by decide) rfl ?_
  refine vv_iconst (v := 0) hC dX5_bestSpoon_12 (by decide) ?_
  refine vv_istore (lv2 := [(5, .int 0), (4, .int 65), (3, .int (-9)), (2, .int (f_X5_setCount fits)), (0, .ref a_ta), (1, .int p1)]) hC dX5_bestSpoon_13 (by decide) rfl ?_
  have hL4 : ∀ (r15 k15 : Nat) (l3_15 : Int32) (l4_15 : Int32) (out : Int32 × Int32), k15 + r15 = ta_people → out = f_X5_bestSpoon_L15 fits p1 r15 k15 l3_15 l4_15 → V g X 8 w0 0 0 72 [(0, .ref a_ta), (1, .int p1), (2, .int (f_X5_setCount fits)), (3, .int out.1), (4, .int out.2)] [] → V g X 8 w0 0 0 15 [(0, .ref a_ta), (1, .int p1), (2, .int (f_X5_setCount fits)), (3, .int l3_15), (4, .int l4_15), (5, .int (nI k15))] [] := by
    intro r15
    induction r15 with
    | zero =>
      intro k15 l3_15 l4_15 out hb ho hk
      refine vv_iload hC 5 dX5_bestSpoon_15 rfl ?_
      refine vv_aload_n hC 0 dX5_bestSpoon_17 rfl rfl ?_
      refine vv_get (v := .int (nI ta_people)) hC fl_X5_22 dX5_bestSpoon_18 h_ta rfl ?_
      refine vv_icmp_ge hC 72 dX5_bestSpoon_21 (by decide) (fun c => ?_) (fun c => False.elim (c ((nI_le_ (a := ta_people) (b := k15) (by omega) (by omega)).mpr (by omega))))
      refine vv_lv [0, 1, 2, 3, 4] rfl ?_
      have ho := ho.trans (by first | (simp only [f_X5_bestSpoon_L15]; done) | rfl | (simp only [f_X5_bestSpoon_L15]; rfl) : _ = (l3_15, l4_15))
      subst ho
      exact hk
    | succ r15 ih =>
      intro k15 l3_15 l4_15 out hb ho hk
      refine vv_iload hC 5 dX5_bestSpoon_15 rfl ?_
      refine vv_aload_n hC 0 dX5_bestSpoon_17 rfl rfl ?_
      refine vv_get (v := .int (nI ta_people)) hC fl_X5_22 dX5_bestSpoon_18 h_ta rfl ?_
      refine vv_icmp_ge hC 72 dX5_bestSpoon_21 (by decide) (fun c => absurd ((nI_le_ (a := ta_people) (b := k15) (by omega) (by omega)).mp c) (by first | omega | decide)) (fun c => ?_)
      refine vv_aload_n hC 0 dX5_bestSpoon_24 rfl rfl ?_
      refine vv_iload hC 5 dX5_bestSpoon_25 rfl ?_
      refine vv_callV hC dX5_bestSpoon_27 md_X5_setsWith lk_m_X5_115 lk_i_X5_setsWith lk_s_X5_setsWith h_ta rfl (As := [.int (nI k15)]) (rest := []) (c_X5_setsWith g w0 a_ta a_fits a_left a_needs ta_people ta_away ta_unseenWays ta_seenHouses fits (nI k15) h_ta h_fits) rfl rfl (Nat.le_of_ble_eq_true rfl) ⟨by decide, by decide, by decide, by decide⟩ (fun r w9 hq => ?_)
      obtain ⟨rfl, rfl⟩ := hq
      show V g X 8 w0 0 0 30 [(0, .ref a_ta), (1, .int p1), (2, .int (f_X5_setCount fits)), (3, .int l3_15), (4, .int l4_15), (5, .int (nI k15))] [.int (f_X5_setsWith fits (nI k15))]
      refine vv_istore (lv2 := [(6, .int (f_X5_setsWith fits (nI k15))), (0, .ref a_ta), (1, .int p1), (2, .int (f_X5_setCount fits)), (3, .int l3_15), (4, .int l4_15), (5, .int (nI k15))]) hC dX5_bestSpoon_30 (by decide) rfl ?_
      refine vv_iload hC 0 dX5_bestSpoon_32 rfl ?_
      refine vv_iload_n hC 3 dX5_bestSpoon_34 rfl rfl ?_
      refine vv_iload hC 0 dX5_bestSpoon_35 rfl ?_
      refine vv_isub hC dX5_bestSpoon_37 ?_
      refine vv_mmax hC lk_m_X5_118 dX5_bestSpoon_38 (by decide) (Nat.le_of_ble_eq_true rfl) (by decide) (by decide) ?_
      refine vv_istore (lv2 := [(7, .int (if f_X5_setsWith fits (nI k15) < (f_X5_setCount fits - f_X5_setsWith fits (nI k15)) then (f_X5_setCount fits - f_X5_setsWith fits (nI k15)) else f_X5_setsWith fits (nI k15))), (6, .int (f_X5_setsWith fits (nI k15))), (0, .ref a_ta), (1, .int p1), (2, .int (f_X5_setCount fits)), (3, .int l3_15), (4, .int l4_15), (5, .int (nI k15))]) hC dX5_bestSpoon_41 (by decide) rfl ?_
      refine vv_iload_n hC 3 dX5_bestSpoon_43 rfl rfl ?_
      refine vv_iload hC 7 dX5_bestSpoon_44 rfl ?_
      refine vv_callSN hC dX5_bestSpoon_46 md_X8_has lk_n_X5_70 lk_t_X8_has (As := [.int p1, .int (nI k15)]) (rest := []) (c_X8_has g w0 p1 (nI k15)) rfl rfl (Nat.le_of_ble_eq_true rfl) ⟨by decide, by decide, by decide, by decide⟩ (fun r w9 hq => ?_)
      obtain ⟨rfl, rfl⟩ := hq
      show V g X 8 w0 0 0 49 [(7, .int (if f_X5_setsWith fits (nI k15) < (f_X5_setCount fits - f_X5_setsWith fits (nI k15)) then (f_X5_setCount fits - f_X5_setsWith fits (nI k15)) else f_X5_setsWith fits (nI k15))), (6, .int (f_X5_setsWith fits (nI k15))), (0, .ref a_ta), (1, .int p1), (2, .int (f_X5_setCount fits)), (3, .int l3_15), (4, .int l4_15), (5, .int (nI k15))] [.int (bI (f_X8_has p1 (nI k15)))]
      have hJ2 : V g X 8 w0 0 0 66 [(0, .ref a_ta), (1, .int p1), (2, .int (f_X5_setCount fits)), (3, .int (if f_X8_has p1 (nI k15) = true then (if l4_15 ≤ (if f_X5_setsWith fits (nI k15) < (f_X5_setCount fits - f_X5_setsWith fits (nI k15)) then (f_X5_setCount fits - f_X5_setsWith fits (nI k15)) else f_X5_setsWith fits (nI k15)) then l3_15 else nI k15) else l3_15)), (4, .int (f_X5_bestSpoon_x1 fits p1 k15 l4_15)), (5, .int (nI k15)), (6, .int (f_X5_setsWith fits (nI k15))), (7, .int (if f_X5_setsWith fits (nI k15) < (f_X5_setCount fits - f_X5_setsWith fits (nI k15)) then (f_X5_setCount fits - f_X5_setsWith fits (nI k15)) else f_X5_setsWith fits (nI k15)))] [] := by
        refine vv_iinc (lv2 := [(5, .int (nI (k15 + 1))), (0, .ref a_ta), (1, .int p1), (2, .int (f_X5_setCount fits)), (3, .int (if f_X8_has p1 (nI k15) = true then (if l4_15 ≤ (if f_X5_setsWith fits (nI k15) < (f_X5_setCount fits - f_X5_setsWith fits (nI k15)) then (f_X5_setCount fits - f_X5_setsWith fits (nI k15)) else f_X5_setsWith fits (nI k15)) then l3_15 else nI k15) else l3_15)), (4, .int (f_X5_bestSpoon_x1 fits p1 k15 l4_15)), (6, .int (f_X5_setsWith fits (nI k15))), (7, .int (if f_X5_setsWith fits (nI k15) < (f_X5_setCount fits - f_X5_setsWith fits (nI k15)) then (f_X5_setCount fits - f_X5_setsWith fits (nI k15)) else f_X5_setsWith fits (nI k15)))]) hC 5 dX5_bestSpoon_66 rfl (nI_add k15 1) (by decide) rfl ?_
        refine vv_goto hC 15 dX5_bestSpoon_69 (by decide) ?_
        refine vv_lv [1, 2, 3, 4, 5, 0] rfl ?_
        exact ih (k15 + 1) (if f_X8_has p1 (nI k15) = true then (if l4_15 ≤ (if f_X5_setsWith fits (nI k15) < (f_X5_setCount fits - f_X5_setsWith fits (nI k15)) then (f_X5_setCount fits - f_X5_setsWith fits (nI k15)) else f_X5_setsWith fits (nI k15)) then l3_15 else nI k15) else l3_15) (f_X5_bestSpoon_x1 fits p1 k15 l4_15) out (by omega) (ho.trans (by first | (simp only [f_X5_bestSpoon_L15]; done) | rfl | (simp only [f_X5_bestSpoon_L15]; rfl))) hk
      refine vv_if_eq hC 66 dX5_bestSpoon_49 (by decide) (fun c1 => ?_) (fun c1 => ?_)
      · have c1 : ¬ (f_X8_has p1 (nI k15) = true) := bI_f c1
        refine vv_lv [2, 3, 4, 5, 6, 7, 1, 0] rfl ?_
        have hz := hJ2
        try simp only [f_X5_bestSpoon_x1, if_neg c1] at hz
        first | exact hz | (simp only [f_X5_bestSpoon_x1, if_neg c1]; exact hz)
      · have c1 : f_X8_has p1 (nI k15) = true := bI_t c1
        refine vv_iload hC 0 dX5_bestSpoon_52 rfl ?_
        refine vv_iload hC 6 dX5_bestSpoon_54 rfl ?_
        refine vv_icmp_ge hC 66 dX5_bestSpoon_56 (by decide) (fun c3 => ?_) (fun c3 => ?_)
        · have c3 : l4_15 ≤ (if f_X5_setsWith fits (nI k15) < (f_X5_setCount fits - f_X5_setsWith fits (nI k15)) then (f_X5_setCount fits - f_X5_setsWith fits (nI k15)) else f_X5_setsWith fits (nI k15)) := c3
          refine vv_lv [2, 3, 4, 5, 6, 7, 1, 0] rfl ?_
          have hz := hJ2
          try simp only [f_X5_bestSpoon_x1, if_pos c1, if_pos c3] at hz
          first | exact hz | (simp only [f_X5_bestSpoon_x1, if_pos c1, if_pos c3]; exact hz)
        · have c3 : ¬ (l4_15 ≤ (if f_X5_setsWith fits (nI k15) < (f_X5_setCount fits - f_X5_setsWith fits (nI k15)) then (f_X5_setCount fits - f_X5_setsWith fits (nI k15)) else f_X5_setsWith fits (nI k15))) := c3
          refine vv_iload hC 7 dX5_bestSpoon_59 rfl ?_
          refine vv_istore_n (lv2 := [(3, .int (nI k15)), (7, .int (if f_X5_setsWith fits (nI k15) < (f_X5_setCount fits - f_X5_setsWith fits (nI k15)) then (f_X5_setCount fits - f_X5_setsWith fits (nI k15)) else f_X5_setsWith fits (nI k15))), (6, .int (f_X5_setsWith fits (nI k15))), (0, .ref a_ta), (1, .int p1), (2, .int (f_X5_setCount fits)), (4, .int l4_15), (5, .int (nI k15))]) hC dX5_bestSpoon_61 rfl (by decide) rfl ?_
          refine vv_iload hC 1 dX5_bestSpoon_62 rfl ?_
          refine vv_istore (lv2 := [(4, .int (if f_X5_setsWith fits (nI k15) < (f_X5_setCount fits - f_X5_setsWith fits (nI k15)) then (f_X5_setCount fits - f_X5_setsWith fits (nI k15)) else f_X5_setsWith fits (nI k15))), (3, .int (nI k15)), (7, .int (if f_X5_setsWith fits (nI k15) < (f_X5_setCount fits - f_X5_setsWith fits (nI k15)) then (f_X5_setCount fits - f_X5_setsWith fits (nI k15)) else f_X5_setsWith fits (nI k15))), (6, .int (f_X5_setsWith fits (nI k15))), (0, .ref a_ta), (1, .int p1), (2, .int (f_X5_setCount fits)), (5, .int (nI k15))]) hC dX5_bestSpoon_64 (by decide) rfl ?_
          refine vv_lv [4, 5, 6, 1, 0, 7, 3, 2] rfl ?_
          have hz := hJ2
          try simp only [f_X5_bestSpoon_x1, if_pos c1, if_neg c3] at hz
          first | exact hz | (simp only [f_X5_bestSpoon_x1, if_pos c1, if_neg c3]; exact hz)
  refine vv_lv [4, 5, 3, 2, 1, 0] rfl ?_
  refine hL4 ta_people 0 (-9) 65 (f_X5_bestSpoon_L15 fits p1 ta_people 0 (-9) 65) (by omega) rfl ?_
  refine vv_iload_n hC 3 dX5_bestSpoon_72 rfl rfl ?_
  have hf : (f_X5_bestSpoon ta_people fits p1) = (f_X5_bestSpoon_L15 fits p1 ta_people 0 (-9) 65).1 := by first | (simp only [f_X5_bestSpoon]; done) | rfl | (simp only [f_X5_bestSpoon]; rfl)
  refine vv_iret hC hR rfl dX5_bestSpoon_73 (by omega) (by omega) ?_
  rw [hf]
  exact ⟨rfl, rfl⟩
def f_X5_fillCube_x1 (needs : Nat → Int32) (p1 : Int32) (l4_17 : Int32) (l5_17 : Int32) (l6_17 : Int32) : Int32 := (if (l5_17 - l5_17 / 3 * 3) = 2 then (if (1 + (if f_X8_at needs 729 (p1 - (2 * l6_17)) < f_X8_at needs 729 (p1 - l6_17) then f_X8_at needs 729 (p1 - l6_17) else f_X8_at needs 729 (p1 - (2 * l6_17)))) < l4_17 then (1 + (if f_X8_at needs 729 (p1 - (2 * l6_17)) < f_X8_at needs 729 (p1 - l6_17) then f_X8_at needs 729 (p1 - l6_17) else f_X8_at needs 729 (p1 - (2 * l6_17)))) else l4_17) else l4_17)
def f_X5_fillCube_L17 (left : Nat → Int32) (needs : Nat → Int32) (p1 : Int32) : Nat → Nat → Int32 → Int32 → Int32 → Int32 → Int32 → Int32 × Int32 × Int32 × Int32 × Int32
  | 0, k17, l2_17, l3_17, l4_17, l5_17, l6_17 => (l2_17, l3_17, l4_17, l5_17, l6_17)
  | r17 + 1, k17, l2_17, l3_17, l4_17, l5_17, l6_17 => f_X5_fillCube_L17 left needs p1 r17 (k17 + 1) (if (l5_17 - l5_17 / 3 * 3) = 1 then (l2_17 ||| f_X8_bit (nI k17)) else l2_17) (if (l5_17 - l5_17 / 3 * 3) = 2 then (f_X8_at left 729 (p1 - (2 * l6_17)) + f_X8_at left 729 (p1 - l6_17)) else l3_17) (f_X5_fillCube_x1 needs p1 l4_17 l5_17 l6_17) (l5_17 / 3) (l6_17 * 3)
def f_X5_fillCube_x2 (left : Nat → Int32) (needs : Nat → Int32) (fits : Nat → Int64) (p1 : Int32) : Int32 := (if 0 ≤ (f_X5_fillCube_L17 left needs p1 6 0 0 (-1) 6 p1 1).2.1 then (f_X5_fillCube_L17 left needs p1 6 0 0 (-1) 6 p1 1).2.1 else bI (if 64 ≤ (f_X5_fillCube_L17 left needs p1 6 0 0 (-1) 6 p1 1).1 then false else (if 0 < fits ((f_X5_fillCube_L17 left needs p1 6 0 0 (-1) 6 p1 1).1).toNatClampNeg then true else false)))
def f_X5_fillCube (left : Nat → Int32) (needs : Nat → Int32) (fits : Nat → Int64) (p1 : Int32) : (Nat → Int32) × (Nat → Int32) := ((f_X8_put left 729 p1 (f_X5_fillCube_x2 left needs fits p1)), (f_X8_put needs 729 p1 (if 1 < (f_X5_fillCube_x2 left needs fits p1) then (f_X5_fillCube_L17 left needs p1 6 0 0 (-1) 6 p1 1).2.2.1 else (0 : Int32))))
theorem nn_or {x y : Int32} (h1 : ¬ x < 0) (h2 : ¬ y < 0) : ¬ (x ||| y) < 0 := by
  obtain ⟨a, ha, rfl⟩ := nI_of h1
  obtain ⟨b, hb, rfl⟩ := nI_of h2
  rw [fa_or]
  exact nI_neg (Nat.or_lt_two_pow (n := 31) ha hb)
theorem bit_nn {k : Nat} (h : k < 6) : ¬ f_X8_bit (nI k) < 0 := by
  match k, h with
  | 0, _ => decide
  | 1, _ => decide
  | 2, _ => decide
  | 3, _ => decide
  | 4, _ => decide
  | 5, _ => decide
theorem cube_nn {left needs : Nat → Int32} {p : Int32} : ∀ (r k : Nat) (s a b c d : Int32), k + r ≤ 6 → ¬ s < 0 → ¬ (f_X5_fillCube_L17 left needs p r k s a b c d).1 < 0 := by
  intro r
  induction r with
  | zero => intro k s a b c d _ h; exact h
  | succ r ih =>
    intro k s a b c d hk h
    simp only [f_X5_fillCube_L17]
    refine ih _ _ _ _ _ _ (by omega) ?_
    split
    · exact nn_or h (bit_nn (by omega))
    · exact h

set_option maxHeartbeats 4000000 in
set_option maxRecDepth 100000 in
theorem c_X5_fillCube (g : GT) (w0 : Wd) (a_ta : Nat) (a_fits : Nat) (a_left : Nat) (a_needs : Nat) (ta_people : Nat) (ta_away : Int32) (ta_unseenWays : Int64) (ta_seenHouses : Int64) (left : Nat → Int32) (needs : Nat → Int32) (fits : Nat → Int64) (p1 : Int32) (h_ta : w0 a_ta = some (.inr (5, cTa a_fits a_left a_needs (ta_people, ta_away, ta_unseenWays, ta_seenHouses)))) (h_left : w0 a_left = some (.inl (g.2.2.1 0, 729, .inl left))) (h_needs : w0 a_needs = some (.inl (g.2.2.1 0, 729, .inl needs))) (h_fits : w0 a_fits = some (.inl (g.2.2.1 1, 64, .inr (.inl fits)))) (ne_fits_left : ¬ a_fits = a_left) (ne_fits_needs : ¬ a_fits = a_needs) (ne_left_needs : ¬ a_left = a_needs) : CT g yX5_fillCube cX5_fillCube 11 none 1 25 0 0 w0 [.ref a_ta, .int p1] (fun r w2 => r = none ∧ w2 a_left = some (.inl (g.2.2.1 0, 729, .inl ((f_X5_fillCube left needs fits p1).1))) ∧ w2 a_needs = some (.inl (g.2.2.1 0, 729, .inl ((f_X5_fillCube left needs fits p1).2))) ∧ wE (fun q => q = a_left ∨ q = a_needs) w0 w2) := by
  refine CT.of (own := RX5) (by decide +kernel) rfl (Nat.le_of_ble_eq_true rfl) (fun X hC hR hI => ?_)
  show V g X 11 w0 0 0 0 [(0, .ref a_ta), (1, .int p1)] []
  have hE : wE (fun q => q = a_left ∨ q = a_needs) w0 w0 := wE.refl
  refine vv_iconst (v := 0) hC dX5_fillCube_0 (by decide) ?_
  refine vv_istore_n (lv2 := [(2, .int 0), (0, .ref a_ta), (1, .int p1)]) hC dX5_fillCube_1 rfl (by decide) rfl ?_
  refine vv_iconst (v := (-1)) hC dX5_fillCube_2 (by decide) ?_
  refine vv_istore_n (lv2 := [(3, .int (-1)), (2, .int 0), (0, .ref a_ta), (1, .int p1)]) hC dX5_fillCube_3 rfl (by decide) rfl ?_
  refine vv_bipush (v := (6)) hC dX5_fillCube_4 (by decide) ?_
  refine vv_istore (lv2 := [(4, .int 6), (3, .int (-1)), (2, .int 0), (0, .ref a_ta), (1, .int p1)]) hC dX5_fillCube_6 (by decide) rfl ?_
  refine vv_iload_n hC 4 dX5_fillCube_8 rfl rfl ?_
  refine vv_istore (lv2 := [(5, .int p1), (4, .int 6), (3, .int (-1)), (2, .int 0), (0, .ref a_ta), (1, .int p1)]) hC dX5_fillCube_9 (by decide) rfl ?_
  refine vv_iconst (v := 1) hC dX5_fillCube_11 (by decide) ?_
  refine vv_istore (lv2 := [(6, .int 1), (5, .int p1), (4, .int 6), (3, .int (-1)), (2, .int 0), (0, .ref a_ta), (1, .int p1)]) hC dX5_fillCube_12 (by decide) rfl ?_
  refine vv_iconst (v := 0) hC dX5_fillCube_14 (by decide) ?_
  refine vv_istore (lv2 := [(7, .int 0), (6, .int 1), (5, .int p1), (4, .int 6), (3, .int (-1)), (2, .int 0), (0, .ref a_ta), (1, .int p1)]) hC dX5_fillCube_15 (by decide) rfl ?_
  have hL5 : ∀ (r17 k17 : Nat) (l2_17 : Int32) (l3_17 : Int32) (l4_17 : Int32) (l5_17 : Int32) (l6_17 : Int32) (out : Int32 × Int32 × Int32 × Int32 × Int32), k17 + r17 = 6 → out = f_X5_fillCube_L17 left needs p1 r17 k17 l2_17 l3_17 l4_17 l5_17 l6_17 → V g X 11 w0 0 0 132 [(0, .ref a_ta), (1, .int p1), (2, .int out.1), (3, .int out.2.1), (4, .int out.2.2.1), (5, .int out.2.2.2.1), (6, .int out.2.2.2.2)] [] → V g X 11 w0 0 0 17 [(0, .ref a_ta), (1, .int p1), (2, .int l2_17), (3, .int l3_17), (4, .int l4_17), (5, .int l5_17), (6, .int l6_17), (7, .int (nI k17))] [] := by
    intro r17
    induction r17 with
    | zero =>
      intro k17 l2_17 l3_17 l4_17 l5_17 l6_17 out hb ho hk
      refine vv_iload hC 7 dX5_fillCube_17 rfl ?_
      refine vv_bipush (v := (6)) hC dX5_fillCube_19 (by decide) ?_
      refine vv_icmp_ge hC 132 dX5_fillCube_21 (by decide) (fun c => ?_) (fun c => False.elim (c ((nI_le_ (a := 6) (b := k17) (by omega) (by omega)).mpr (by omega))))
      refine vv_lv [0, 1, 2, 3, 4, 5, 6] rfl ?_
      have ho := ho.trans (by first | (simp only [f_X5_fillCube_L17]; done) | rfl | (simp only [f_X5_fillCube_L17]; rfl) : _ = (l2_17, l3_17, l4_17, l5_17, l6_17))
      subst ho
      exact hk
    | succ r17 ih =>
      intro k17 l2_17 l3_17 l4_17 l5_17 l6_17 out hb ho hk
      refine vv_iload hC 7 dX5_fillCube_17 rfl ?_
      refine vv_bipush (v := (6)) hC dX5_fillCube_19 (by decide) ?_
      refine vv_icmp_ge hC 132 dX5_fillCube_21 (by decide) (fun c => absurd ((nI_le_ (a := 6) (b := k17) (by omega) (by omega)).mp c) (by first | omega | decide)) (fun c => ?_)
      refine vv_iload hC 5 dX5_fillCube_24 rfl ?_
      refine vv_iconst (v := 3) hC dX5_fillCube_26 (by decide) ?_
      refine vv_irem hC dX5_fillCube_27 (by decide) ?_
      refine vv_istore (lv2 := [(8, .int (l5_17 - l5_17 / 3 * 3)), (0, .ref a_ta), (1, .int p1), (2, .int l2_17), (3, .int l3_17), (4, .int l4_17), (5, .int l5_17), (6, .int l6_17), (7, .int (nI k17))]) hC dX5_fillCube_28 (by decide) rfl ?_
      refine vv_iload hC 0 dX5_fillCube_30 rfl ?_
      refine vv_iconst (v := 1) hC dX5_fillCube_32 (by decide) ?_
      have hJ2 : V g X 11 w0 0 0 44 [(0, .ref a_ta), (1, .int p1), (2, .int (if (l5_17 - l5_17 / 3 * 3) = 1 then (l2_17 ||| f_X8_bit (nI k17)) else l2_17)), (3, .int l3_17), (4, .int l4_17), (5, .int l5_17), (6, .int l6_17), (7, .int (nI k17)), (8, .int (l5_17 - l5_17 / 3 * 3))] [] := by
        refine vv_iload hC 8 dX5_fillCube_44 rfl ?_
        refine vv_iconst (v := 2) hC dX5_fillCube_46 (by decide) ?_
        have hJ4 : V g X 11 w0 0 0 114 [(0, .ref a_ta), (1, .int p1), (2, .int (if (l5_17 - l5_17 / 3 * 3) = 1 then (l2_17 ||| f_X8_bit (nI k17)) else l2_17)), (3, .int (if (l5_17 - l5_17 / 3 * 3) = 2 then (f_X8_at left 729 (p1 - (2 * l6_17)) + f_X8_at left 729 (p1 - l6_17)) else l3_17)), (4, .int (f_X5_fillCube_x1 needs p1 l4_17 l5_17 l6_17)), (5, .int l5_17), (6, .int l6_17), (7, .int (nI k17)), (8, .int (l5_17 - l5_17 / 3 * 3))] [] := by
          refine vv_iload hC 5 dX5_fillCube_114 rfl ?_
          refine vv_iconst (v := 3) hC dX5_fillCube_116 (by decide) ?_
          refine vv_idiv hC dX5_fillCube_117 (by decide) ?_
          refine vv_istore (lv2 := [(5, .int (l5_17 / 3)), (0, .ref a_ta), (1, .int p1), (2, .int (if (l5_17 - l5_17 / 3 * 3) = 1 then (l2_17 ||| f_X8_bit (nI k17)) else l2_17)), (3, .int (if (l5_17 - l5_17 / 3 * 3) = 2 then (f_X8_at left 729 (p1 - (2 * l6_17)) + f_X8_at left 729 (p1 - l6_17)) else l3_17)), (4, .int (f_X5_fillCube_x1 needs p1 l4_17 l5_17 l6_17)), (6, .int l6_17), (7, .int (nI k17)), (8, .int (l5_17 - l5_17 / 3 * 3))]) hC dX5_fillCube_118 (by decide) rfl ?_
          refine vv_iload hC 6 dX5_fillCube_120 rfl ?_
          refine vv_iconst (v := 3) hC dX5_fillCube_122 (by decide) ?_
          refine vv_imul hC dX5_fillCube_123 ?_
          refine vv_istore (lv2 := [(6, .int (l6_17 * 3)), (5, .int (l5_17 / 3)), (0, .ref a_ta), (1, .int p1), (2, .int (if (l5_17 - l5_17 / 3 * 3) = 1 then (l2_17 ||| f_X8_bit (nI k17)) else l2_17)), (3, .int (if (l5_17 - l5_17 / 3 * 3) = 2 then (f_X8_at left 729 (p1 - (2 * l6_17)) + f_X8_at left 729 (p1 - l6_17)) else l3_17)), (4, .int (f_X5_fillCube_x1 needs p1 l4_17 l5_17 l6_17)), (7, .int (nI k17)), (8, .int (l5_17 - l5_17 / 3 * 3))]) hC dX5_fillCube_124 (by decide) rfl ?_
          refine vv_iinc (lv2 := [(7, .int (nI (k17 + 1))), (6, .int (l6_17 * 3)), (5, .int (l5_17 / 3)), (0, .ref a_ta), (1, .int p1), (2, .int (if (l5_17 - l5_17 / 3 * 3) = 1 then (l2_17 ||| f_X8_bit (nI k17)) else l2_17)), (3, .int (if (l5_17 - l5_17 / 3 * 3) = 2 then (f_X8_at left 729 (p1 - (2 * l6_17)) + f_X8_at left 729 (p1 - l6_17)) else l3_17)), (4, .int (f_X5_fillCube_x1 needs p1 l4_17 l5_17 l6_17)), (8, .int (l5_17 - l5_17 / 3 * 3))]) hC 7 dX5_fillCube_126 rfl (nI_add k17 1) (by decide) rfl ?_
          refine vv_goto hC 17 dX5_fillCube_129 (by decide) ?_
          refine vv_lv [3, 4, 5, 6, 7, 2, 1, 0] rfl ?_
          exact ih (k17 + 1) (if (l5_17 - l5_17 / 3 * 3) = 1 then (l2_17 ||| f_X8_bit (nI k17)) else l2_17) (if (l5_17 - l5_17 / 3 * 3) = 2 then (f_X8_at left 729 (p1 - (2 * l6_17)) + f_X8_at left 729 (p1 - l6_17)) else l3_17) (f_X5_fillCube_x1 needs p1 l4_17 l5_17 l6_17) (l5_17 / 3) (l6_17 * 3) out (by omega) (ho.trans (by first | (simp only [f_X5_fillCube_L17]; done) | rfl | (simp only [f_X5_fillCube_L17]; rfl))) hk
        refine vv_icmp_ne hC 114 dX5_fillCube_47 (by decide) (fun c3 => ?_) (fun c3 => ?_)
        · have c3 : ¬ ((l5_17 - l5_17 / 3 * 3) = 2) := c3
          have hz := hJ4
          try simp only [f_X5_fillCube_x1, if_neg c3] at hz
          first | exact hz | (simp only [f_X5_fillCube_x1, if_neg c3]; exact hz)
        · have c3 : (l5_17 - l5_17 / 3 * 3) = 2 := c3
          refine vv_iload_n hC 1 dX5_fillCube_50 rfl rfl ?_
          refine vv_iconst (v := 2) hC dX5_fillCube_51 (by decide) ?_
          refine vv_iload hC 6 dX5_fillCube_52 rfl ?_
          refine vv_imul hC dX5_fillCube_54 ?_
          refine vv_isub hC dX5_fillCube_55 ?_
          refine vv_istore (lv2 := [(9, .int (p1 - (2 * l6_17))), (0, .ref a_ta), (1, .int p1), (2, .int (if (l5_17 - l5_17 / 3 * 3) = 1 then (l2_17 ||| f_X8_bit (nI k17)) else l2_17)), (3, .int l3_17), (4, .int l4_17), (5, .int l5_17), (6, .int l6_17), (7, .int (nI k17)), (8, .int (l5_17 - l5_17 / 3 * 3))]) hC dX5_fillCube_56 (by decide) rfl ?_
          refine vv_iload_n hC 2 dX5_fillCube_58 rfl rfl ?_
          refine vv_iload hC 7 dX5_fillCube_59 rfl ?_
          refine vv_isub hC dX5_fillCube_61 ?_
          refine vv_istore (lv2 := [(10, .int (p1 - l6_17)), (9, .int (p1 - (2 * l6_17))), (0, .ref a_ta), (1, .int p1), (2, .int (if (l5_17 - l5_17 / 3 * 3) = 1 then (l2_17 ||| f_X8_bit (nI k17)) else l2_17)), (3, .int l3_17), (4, .int l4_17), (5, .int l5_17), (6, .int l6_17), (7, .int (nI k17)), (8, .int (l5_17 - l5_17 / 3 * 3))]) hC dX5_fillCube_62 (by decide) rfl ?_
          refine vv_aload_n hC 2 dX5_fillCube_64 rfl rfl ?_
          refine vv_get (v := .ref a_left) hC fl_X5_15 dX5_fillCube_65 h_ta rfl ?_
          refine vv_iload hC 1 dX5_fillCube_68 rfl ?_
          refine vv_callSN hC dX5_fillCube_70 md_X8_at lk_n_X5_128 lk_t_X8_at (As := [.ref a_left, .int (p1 - (2 * l6_17))]) (rest := []) (c_X8_at g w0 a_left 729 left (p1 - (2 * l6_17)) (by decide) h_left) rfl rfl (Nat.le_of_ble_eq_true rfl) ⟨by decide, by decide, by decide, by decide⟩ (fun r w9 hq => ?_)
          obtain ⟨rfl, rfl⟩ := hq
          show V g X 11 w0 0 0 73 [(10, .int (p1 - l6_17)), (9, .int (p1 - (2 * l6_17))), (0, .ref a_ta), (1, .int p1), (2, .int (if (l5_17 - l5_17 / 3 * 3) = 1 then (l2_17 ||| f_X8_bit (nI k17)) else l2_17)), (3, .int l3_17), (4, .int l4_17), (5, .int l5_17), (6, .int l6_17), (7, .int (nI k17)), (8, .int (l5_17 - l5_17 / 3 * 3))] [.int (f_X8_at left 729 (p1 - (2 * l6_17)))]
          refine vv_aload_n hC 2 dX5_fillCube_73 rfl rfl ?_
          refine vv_get (v := .ref a_left) hC fl_X5_15 dX5_fillCube_74 h_ta rfl ?_
          refine vv_iload hC 0 dX5_fillCube_77 rfl ?_
          refine vv_callSN hC dX5_fillCube_79 md_X8_at lk_n_X5_128 lk_t_X8_at (As := [.ref a_left, .int (p1 - l6_17)]) (rest := [.int (f_X8_at left 729 (p1 - (2 * l6_17)))]) (c_X8_at g w0 a_left 729 left (p1 - l6_17) (by decide) h_left) rfl rfl (Nat.le_of_ble_eq_true rfl) ⟨by decide, by decide, by decide, by decide⟩ (fun r w9 hq => ?_)
          obtain ⟨rfl, rfl⟩ := hq
          show V g X 11 w0 0 0 82 [(10, .int (p1 - l6_17)), (9, .int (p1 - (2 * l6_17))), (0, .ref a_ta), (1, .int p1), (2, .int (if (l5_17 - l5_17 / 3 * 3) = 1 then (l2_17 ||| f_X8_bit (nI k17)) else l2_17)), (3, .int l3_17), (4, .int l4_17), (5, .int l5_17), (6, .int l6_17), (7, .int (nI k17)), (8, .int (l5_17 - l5_17 / 3 * 3))] [.int (f_X8_at left 729 (p1 - l6_17)), .int (f_X8_at left 729 (p1 - (2 * l6_17)))]
          refine vv_iadd hC dX5_fillCube_82 ?_
          refine vv_istore_n (lv2 := [(3, .int (f_X8_at left 729 (p1 - (2 * l6_17)) + f_X8_at left 729 (p1 - l6_17))), (10, .int (p1 - l6_17)), (9, .int (p1 - (2 * l6_17))), (0, .ref a_ta), (1, .int p1), (2, .int (if (l5_17 - l5_17 / 3 * 3) = 1 then (l2_17 ||| f_X8_bit (nI k17)) else l2_17)), (4, .int l4_17), (5, .int l5_17), (6, .int l6_17), (7, .int (nI k17)), (8, .int (l5_17 - l5_17 / 3 * 3))]) hC dX5_fillCube_83 rfl (by decide) rfl ?_
          refine vv_iload hC 6 dX5_fillCube_84 rfl ?_
          refine vv_iconst (v := 1) hC dX5_fillCube_86 (by decide) ?_
          refine vv_aload_n hC 3 dX5_fillCube_87 rfl rfl ?_
          refine vv_get (v := .ref a_needs) hC fl_X5_19 dX5_fillCube_88 h_ta rfl ?_
          refine vv_iload hC 2 dX5_fillCube_91 rfl ?_
          refine vv_callSN hC dX5_fillCube_93 md_X8_at lk_n_X5_128 lk_t_X8_at (As := [.ref a_needs, .int (p1 - (2 * l6_17))]) (rest := [.int 1, .int l4_17]) (c_X8_at g w0 a_needs 729 needs (p1 - (2 * l6_17)) (by decide) h_needs) rfl rfl (Nat.le_of_ble_eq_true rfl) ⟨by decide, by decide, by decide, by decide⟩ (fun r w9 hq => ?_)
          obtain ⟨rfl, rfl⟩ := hq
          show V g X 11 w0 0 0 96 [(3, .int (f_X8_at left 729 (p1 - (2 * l6_17)) + f_X8_at left 729 (p1 - l6_17))), (10, .int (p1 - l6_17)), (9, .int (p1 - (2 * l6_17))), (0, .ref a_ta), (1, .int p1), (2, .int (if (l5_17 - l5_17 / 3 * 3) = 1 then (l2_17 ||| f_X8_bit (nI k17)) else l2_17)), (4, .int l4_17), (5, .int l5_17), (6, .int l6_17), (7, .int (nI k17)), (8, .int (l5_17 - l5_17 / 3 * 3))] [.int (f_X8_at needs 729 (p1 - (2 * l6_17))), .int 1, .int l4_17]
          refine vv_aload_n hC 3 dX5_fillCube_96 rfl rfl ?_
          refine vv_get (v := .ref a_needs) hC fl_X5_19 dX5_fillCube_97 h_ta rfl ?_
          refine vv_iload hC 1 dX5_fillCube_100 rfl ?_
          refine vv_callSN hC dX5_fillCube_102 md_X8_at lk_n_X5_128 lk_t_X8_at (As := [.ref a_needs, .int (p1 - l6_17)]) (rest := [.int (f_X8_at needs 729 (p1 - (2 * l6_17))), .int 1, .int l4_17]) (c_X8_at g w0 a_needs 729 needs (p1 - l6_17) (by decide) h_needs) rfl rfl (Nat.le_of_ble_eq_true rfl) ⟨by decide, by decide, by decide, by decide⟩ (fun r w9 hq => ?_)
          obtain ⟨rfl, rfl⟩ := hq
          show V g X 11 w0 0 0 105 [(3, .int (f_X8_at left 729 (p1 - (2 * l6_17)) + f_X8_at left 729 (p1 - l6_17))), (10, .int (p1 - l6_17)), (9, .int (p1 - (2 * l6_17))), (0, .ref a_ta), (1, .int p1), (2, .int (if (l5_17 - l5_17 / 3 * 3) = 1 then (l2_17 ||| f_X8_bit (nI k17)) else l2_17)), (4, .int l4_17), (5, .int l5_17), (6, .int l6_17), (7, .int (nI k17)), (8, .int (l5_17 - l5_17 / 3 * 3))] [.int (f_X8_at needs 729 (p1 - l6_17)), .int (f_X8_at needs 729 (p1 - (2 * l6_17))), .int 1, .int l4_17]
          refine vv_mmax hC lk_m_X5_118 dX5_fillCube_105 (by decide) (Nat.le_of_ble_eq_true rfl) (by decide) (by decide) ?_
          refine vv_iadd hC dX5_fillCube_108 ?_
          refine vv_mmin hC lk_m_X5_132 dX5_fillCube_109 (by decide) (Nat.le_of_ble_eq_true rfl) (by decide) (by decide) ?_
          refine vv_istore (lv2 := [(4, .int (if (1 + (if f_X8_at needs 729 (p1 - (2 * l6_17)) < f_X8_at needs 729 (p1 - l6_17) then f_X8_at needs 729 (p1 - l6_17) else f_X8_at needs 729 (p1 - (2 * l6_17)))) < l4_17 then (1 + (if f_X8_at needs 729 (p1 - (2 * l6_17)) < f_X8_at needs 729 (p1 - l6_17) then f_X8_at needs 729 (p1 - l6_17) else f_X8_at needs 729 (p1 - (2 * l6_17)))) else l4_17)), (3, .int (f_X8_at left 729 (p1 - (2 * l6_17)) + f_X8_at left 729 (p1 - l6_17))), (10, .int (p1 - l6_17)), (9, .int (p1 - (2 * l6_17))), (0, .ref a_ta), (1, .int p1), (2, .int (if (l5_17 - l5_17 / 3 * 3) = 1 then (l2_17 ||| f_X8_bit (nI k17)) else l2_17)), (5, .int l5_17), (6, .int l6_17), (7, .int (nI k17)), (8, .int (l5_17 - l5_17 / 3 * 3))]) hC dX5_fillCube_112 (by decide) rfl ?_
          refine vv_lv [4, 5, 6, 1, 0, 7, 8, 9, 10] rfl ?_
          have hz := hJ4
          try simp only [f_X5_fillCube_x1, if_pos c3] at hz
          first | exact hz | (simp only [f_X5_fillCube_x1, if_pos c3]; exact hz)
      refine vv_icmp_ne hC 44 dX5_fillCube_33 (by decide) (fun c1 => ?_) (fun c1 => ?_)
      · have c1 : ¬ ((l5_17 - l5_17 / 3 * 3) = 1) := c1
        refine vv_lv [1, 2, 3, 4, 5, 6, 7, 8, 0] rfl ?_
        have hz := hJ2
        try simp only [if_neg c1] at hz
        first | exact hz | (simp only [if_neg c1]; exact hz)
      · have c1 : (l5_17 - l5_17 / 3 * 3) = 1 := c1
        refine vv_iload_n hC 3 dX5_fillCube_36 rfl rfl ?_
        refine vv_iload hC 8 dX5_fillCube_37 rfl ?_
        refine vv_callSN hC dX5_fillCube_39 md_X8_bit lk_n_X5_77 lk_t_X8_bit (As := [.int (nI k17)]) (rest := [.int l2_17]) (c_X8_bit g w0 (nI k17)) rfl rfl (Nat.le_of_ble_eq_true rfl) ⟨by decide, by decide, by decide, by decide⟩ (fun r w9 hq => ?_)
        obtain ⟨rfl, rfl⟩ := hq
        show V g X 11 w0 0 0 42 [(8, .int (l5_17 - l5_17 / 3 * 3)), (0, .ref a_ta), (1, .int p1), (2, .int l2_17), (3, .int l3_17), (4, .int l4_17), (5, .int l5_17), (6, .int l6_17), (7, .int (nI k17))] [.int (f_X8_bit (nI k17)), .int l2_17]
        refine vv_ior hC dX5_fillCube_42 ?_
        refine vv_istore_n (lv2 := [(2, .int (l2_17 ||| f_X8_bit (nI k17))), (8, .int (l5_17 - l5_17 / 3 * 3)), (0, .ref a_ta), (1, .int p1), (3, .int l3_17), (4, .int l4_17), (5, .int l5_17), (6, .int l6_17), (7, .int (nI k17))]) hC dX5_fillCube_43 rfl (by decide) rfl ?_
        refine vv_lv [2, 3, 0, 4, 5, 6, 7, 8, 1] rfl ?_
        have hz := hJ2
        try simp only [if_pos c1] at hz
        first | exact hz | (simp only [if_pos c1]; exact hz)
  refine vv_lv [6, 7, 5, 4, 3, 2, 1, 0] rfl ?_
  refine hL5 6 0 0 (-1) 6 p1 1 (f_X5_fillCube_L17 left needs p1 6 0 0 (-1) 6 p1 1) (by omega) rfl ?_
  refine vv_iload_n hC 3 dX5_fillCube_132 rfl rfl ?_
  have hJ7 : V g X 11 w0 0 0 162 [(0, .ref a_ta), (1, .int p1), (2, .int ((f_X5_fillCube_L17 left needs p1 6 0 0 (-1) 6 p1 1).1)), (3, .int (f_X5_fillCube_x2 left needs fits p1)), (4, .int ((f_X5_fillCube_L17 left needs p1 6 0 0 (-1) 6 p1 1).2.2.1)), (5, .int ((f_X5_fillCube_L17 left needs p1 6 0 0 (-1) 6 p1 1).2.2.2.1)), (6, .int ((f_X5_fillCube_L17 left needs p1 6 0 0 (-1) 6 p1 1).2.2.2.2))] [] := by
    refine vv_aload_n hC 0 dX5_fillCube_162 rfl rfl ?_
    refine vv_get (v := .ref a_left) hC fl_X5_15 dX5_fillCube_163 h_ta rfl ?_
    refine vv_iload_n hC 1 dX5_fillCube_166 rfl rfl ?_
    refine vv_iload_n hC 3 dX5_fillCube_167 rfl rfl ?_
    refine vv_callSN hC dX5_fillCube_168 md_X8_put lk_n_X5_135 lk_t_X8_put (As := [.ref a_left, .int p1, .int (f_X5_fillCube_x2 left needs fits p1)]) (rest := []) (c_X8_put g w0 a_left 729 left p1 (f_X5_fillCube_x2 left needs fits p1) (by decide) h_left) rfl rfl (Nat.le_of_ble_eq_true rfl) ⟨by decide, by decide, by decide, by decide⟩ (fun r w9 hq => ?_)
    obtain ⟨rfl, t1, hs⟩ := hq
    obtain ⟨w11, rfl⟩ : ∃ z, z = w9 := ⟨_, rfl⟩
    have h_ta := hs _ _ (fw_oa h_ta h_left) h_ta
    have h_needs := hs _ _ (fun e => ne_left_needs e.symm) h_needs
    have h_fits := hs _ _ ne_fits_left h_fits
    have h_left := t1
    have hE := hE.trans (hs.mono (fun _ z => (Or.inl z)))
    show V g X 11 w11 0 0 171 [(0, .ref a_ta), (1, .int p1), (2, .int ((f_X5_fillCube_L17 left needs p1 6 0 0 (-1) 6 p1 1).1)), (3, .int (f_X5_fillCube_x2 left needs fits p1)), (4, .int ((f_X5_fillCube_L17 left needs p1 6 0 0 (-1) 6 p1 1).2.2.1)), (5, .int ((f_X5_fillCube_L17 left needs p1 6 0 0 (-1) 6 p1 1).2.2.2.1)), (6, .int ((f_X5_fillCube_L17 left needs p1 6 0 0 (-1) 6 p1 1).2.2.2.2))] []
    refine vv_aload_n hC 0 dX5_fillCube_171 rfl rfl ?_
    refine vv_get (v := .ref a_needs) hC fl_X5_19 dX5_fillCube_172 h_ta rfl ?_
    refine vv_iload_n hC 1 dX5_fillCube_175 rfl rfl ?_
    refine vv_iload_n hC 3 dX5_fillCube_176 rfl rfl ?_
    refine vv_iconst (v := 1) hC dX5_fillCube_177 (by decide) ?_
    have hJ13 : V g X 11 w11 0 0 187 [(0, .ref a_ta), (1, .int p1), (2, .int ((f_X5_fillCube_L17 left needs p1 6 0 0 (-1) 6 p1 1).1)), (3, .int (f_X5_fillCube_x2 left needs fits p1)), (4, .int ((f_X5_fillCube_L17 left needs p1 6 0 0 (-1) 6 p1 1).2.2.1)), (5, .int ((f_X5_fillCube_L17 left needs p1 6 0 0 (-1) 6 p1 1).2.2.2.1)), (6, .int ((f_X5_fillCube_L17 left needs p1 6 0 0 (-1) 6 p1 1).2.2.2.2))] [.int (if 1 < (f_X5_fillCube_x2 left needs fits p1) then (f_X5_fillCube_L17 left needs p1 6 0 0 (-1) 6 p1 1).2.2.1 else (0 : Int32)), .int p1, .ref a_needs] := by
      refine vv_callSN hC dX5_fillCube_187 md_X8_put lk_n_X5_135 lk_t_X8_put (As := [.ref a_needs, .int p1, .int (if 1 < (f_X5_fillCube_x2 left needs fits p1) then (f_X5_fillCube_L17 left needs p1 6 0 0 (-1) 6 p1 1).2.2.1 else (0 : Int32))]) (rest := []) (c_X8_put g w11 a_needs 729 needs p1 (if 1 < (f_X5_fillCube_x2 left needs fits p1) then (f_X5_fillCube_L17 left needs p1 6 0 0 (-1) 6 p1 1).2.2.1 else (0 : Int32)) (by decide) h_needs) rfl rfl (Nat.le_of_ble_eq_true rfl) ⟨by decide, by decide, by decide, by decide⟩ (fun r w9 hq => ?_)
      obtain ⟨rfl, t1, hs⟩ := hq
      obtain ⟨w14, rfl⟩ : ∃ z, z = w9 := ⟨_, rfl⟩
      have h_ta := hs _ _ (fw_oa h_ta h_needs) h_ta
      have h_left := hs _ _ ne_left_needs h_left
      have h_fits := hs _ _ ne_fits_needs h_fits
      have h_needs := t1
      have hE := hE.trans (hs.mono (fun _ z => (Or.inr z)))
      show V g X 11 w14 0 0 190 [(0, .ref a_ta), (1, .int p1), (2, .int ((f_X5_fillCube_L17 left needs p1 6 0 0 (-1) 6 p1 1).1)), (3, .int (f_X5_fillCube_x2 left needs fits p1)), (4, .int ((f_X5_fillCube_L17 left needs p1 6 0 0 (-1) 6 p1 1).2.2.1)), (5, .int ((f_X5_fillCube_L17 left needs p1 6 0 0 (-1) 6 p1 1).2.2.2.1)), (6, .int ((f_X5_fillCube_L17 left needs p1 6 0 0 (-1) 6 p1 1).2.2.2.2))] []
      have hf : (f_X5_fillCube left needs fits p1) = ((f_X8_put left 729 p1 (f_X5_fillCube_x2 left needs fits p1)), (f_X8_put needs 729 p1 (if 1 < (f_X5_fillCube_x2 left needs fits p1) then (f_X5_fillCube_L17 left needs p1 6 0 0 (-1) 6 p1 1).2.2.1 else (0 : Int32)))) := by first | (simp only [f_X5_fillCube]; done) | rfl | (simp only [f_X5_fillCube]; rfl)
      refine vv_vret hC hR rfl dX5_fillCube_190 (by omega) (by omega) ?_
      rw [hf]
      try dsimp only
      exact ⟨rfl, h_left, h_needs, hE⟩
    refine vv_icmp_gt hC 185 dX5_fillCube_178 (by decide) (fun c12 => ?_) (fun c12 => ?_)
    · have c12 : 1 < (f_X5_fillCube_x2 left needs fits p1) := c12
      refine vv_iload hC 4 dX5_fillCube_185 rfl ?_
      have hz := hJ13
      try simp only [if_pos c12] at hz
      first | exact hz | (simp only [if_pos c12]; exact hz)
    · have c12 : ¬ (1 < (f_X5_fillCube_x2 left needs fits p1)) := c12
      refine vv_iconst (v := 0) hC dX5_fillCube_181 (by decide) ?_
      refine vv_goto hC 187 dX5_fillCube_182 (by decide) ?_
      have hz := hJ13
      try simp only [if_neg c12] at hz
      first | exact hz | (simp only [if_neg c12]; exact hz)
  refine vv_if_ge hC 162 dX5_fillCube_133 (by decide) (fun c6 => ?_) (fun c6 => ?_)
  · have c6 : 0 ≤ (f_X5_fillCube_L17 left needs p1 6 0 0 (-1) 6 p1 1).2.1 := c6
    have hz := hJ7
    try simp only [f_X5_fillCube_x2, if_pos c6] at hz
    first | exact hz | (simp only [f_X5_fillCube_x2, if_pos c6]; exact hz)
  · have c6 : ¬ (0 ≤ (f_X5_fillCube_L17 left needs p1 6 0 0 (-1) 6 p1 1).2.1) := c6
    refine vv_iload_n hC 2 dX5_fillCube_136 rfl rfl ?_
    refine vv_aload_n hC 0 dX5_fillCube_137 rfl rfl ?_
    refine vv_get (v := .ref a_fits) hC fl_X5_9 dX5_fillCube_138 h_ta rfl ?_
    refine vv_alen_lald (v := nI 64) hC dX5_fillCube_141 h_fits rfl ?_
    refine vv_topi (64) (by decide) ?_
    have hJ9 : V g X 11 w0 0 0 161 [(0, .ref a_ta), (1, .int p1), (2, .int ((f_X5_fillCube_L17 left needs p1 6 0 0 (-1) 6 p1 1).1)), (3, .int ((f_X5_fillCube_L17 left needs p1 6 0 0 (-1) 6 p1 1).2.1)), (4, .int ((f_X5_fillCube_L17 left needs p1 6 0 0 (-1) 6 p1 1).2.2.1)), (5, .int ((f_X5_fillCube_L17 left needs p1 6 0 0 (-1) 6 p1 1).2.2.2.1)), (6, .int ((f_X5_fillCube_L17 left needs p1 6 0 0 (-1) 6 p1 1).2.2.2.2))] [.int (bI (if 64 ≤ (f_X5_fillCube_L17 left needs p1 6 0 0 (-1) 6 p1 1).1 then false else (if 0 < fits ((f_X5_fillCube_L17 left needs p1 6 0 0 (-1) 6 p1 1).1).toNatClampNeg then true else false)))] := by
      refine vv_istore_n (lv2 := [(3, .int (bI (if 64 ≤ (f_X5_fillCube_L17 left needs p1 6 0 0 (-1) 6 p1 1).1 then false else (if 0 < fits ((f_X5_fillCube_L17 left needs p1 6 0 0 (-1) 6 p1 1).1).toNatClampNeg then true else false)))), (0, .ref a_ta), (1, .int p1), (2, .int ((f_X5_fillCube_L17 left needs p1 6 0 0 (-1) 6 p1 1).1)), (4, .int ((f_X5_fillCube_L17 left needs p1 6 0 0 (-1) 6 p1 1).2.2.1)), (5, .int ((f_X5_fillCube_L17 left needs p1 6 0 0 (-1) 6 p1 1).2.2.2.1)), (6, .int ((f_X5_fillCube_L17 left needs p1 6 0 0 (-1) 6 p1 1).2.2.2.2))]) hC dX5_fillCube_161 rfl (by decide) rfl ?_
      refine vv_lv [1, 2, 3, 0, 4, 5, 6] rfl ?_
      have hz := hJ7
      try simp only [f_X5_fillCube_x2, if_neg c6] at hz
      first | exact hz | (simp only [f_X5_fillCube_x2, if_neg c6]; exact hz)
    refine vv_icmp_ge hC 160 dX5_fillCube_142 (by decide) (fun c8 => ?_) (fun c8 => ?_)
    · have c8 : 64 ≤ (f_X5_fillCube_L17 left needs p1 6 0 0 (-1) 6 p1 1).1 := c8
      refine vv_iconst (v := 0) hC dX5_fillCube_160 (by decide) ?_
      have hz := hJ9
      try simp only [if_pos c8] at hz
      first | exact hz | (simp only [if_pos c8]; exact hz)
    · have c8 : ¬ (64 ≤ (f_X5_fillCube_L17 left needs p1 6 0 0 (-1) 6 p1 1).1) := c8
      refine vv_aload_n hC 0 dX5_fillCube_145 rfl rfl ?_
      refine vv_get (v := .ref a_fits) hC fl_X5_9 dX5_fillCube_146 h_ta rfl ?_
      refine vv_iload_n hC 2 dX5_fillCube_149 rfl rfl ?_
      refine vv_lald hC dX5_fillCube_150 h_fits (fw_in (cube_nn 6 0 _ _ _ _ _ (by omega) (by decide)) c8 (by decide)) ?_
      refine vv_lconst (v := 0) hC dX5_fillCube_151 (by decide) ?_
      refine vv_lcmp hC dX5_fillCube_152 ?_
      refine vv_if_le hC 160 dX5_fillCube_153 (by decide) (fun c10 => ?_) (fun c10 => ?_)
      · have c10 : ¬ (0 < fits ((f_X5_fillCube_L17 left needs p1 6 0 0 (-1) 6 p1 1).1).toNatClampNeg) := lc_le c10
        refine vv_iconst (v := 0) hC dX5_fillCube_160 (by decide) ?_
        have hz := hJ9
        try simp only [if_neg c8, if_neg c10] at hz
        first | exact hz | (simp only [if_neg c8, if_neg c10]; exact hz)
      · have c10 : 0 < fits ((f_X5_fillCube_L17 left needs p1 6 0 0 (-1) 6 p1 1).1).toNatClampNeg := lc_nle c10
        refine vv_iconst (v := 1) hC dX5_fillCube_156 (by decide) ?_
        refine vv_goto hC 161 dX5_fillCube_157 (by decide) ?_
        have hz := hJ9
        try simp only [if_neg c8, if_pos c10] at hz
        first | exact hz | (simp only [if_neg c8, if_pos c10]; exact hz)
def f_X5_spoonsAtWorst_L2 (fits : Nat → Int64) : Nat → Nat → (Nat → Int32) → (Nat → Int32) → (Nat → Int32) × (Nat → Int32)
  | 0, k2, y_left_2, y_needs_2 => (y_left_2, y_needs_2)
  | r2 + 1, k2, y_left_2, y_needs_2 => f_X5_spoonsAtWorst_L2 fits r2 (k2 + 1) ((f_X5_fillCube y_left_2 y_needs_2 fits (nI k2)).1) ((f_X5_fillCube y_left_2 y_needs_2 fits (nI k2)).2)
def f_X5_spoonsAtWorst (left : Nat → Int32) (needs : Nat → Int32) (fits : Nat → Int64) : Int32 × (Nat → Int32) × (Nat → Int32) := (f_X8_at ((f_X5_spoonsAtWorst_L2 fits 729 0 left needs).2) 729 728, (f_X5_spoonsAtWorst_L2 fits 729 0 left needs).1, (f_X5_spoonsAtWorst_L2 fits 729 0 left needs).2)
set_option maxHeartbeats 4000000 in
set_option maxRecDepth 100000 in
theorem c_X5_spoonsAtWorst (g : GT) (w0 : Wd) (a_ta : Nat) (a_fits : Nat) (a_left : Nat) (a_needs : Nat) (ta_people : Nat) (ta_away : Int32) (ta_unseenWays : Int64) (ta_seenHouses : Int64) (left : Nat → Int32) (needs : Nat → Int32) (fits : Nat → Int64) (h_ta : w0 a_ta = some (.inr (5, cTa a_fits a_left a_needs (ta_people, ta_away, ta_unseenWays, ta_seenHouses)))) (h_left : w0 a_left = some (.inl (g.2.2.1 0, 729, .inl left))) (h_needs : w0 a_needs = some (.inl (g.2.2.1 0, 729, .inl needs))) (h_fits : w0 a_fits = some (.inl (g.2.2.1 1, 64, .inr (.inl fits)))) (ne_fits_left : ¬ a_fits = a_left) (ne_fits_needs : ¬ a_fits = a_needs) (ne_left_needs : ¬ a_left = a_needs) : CT g yX5_spoonsAtWorst cX5_spoonsAtWorst 2 (some .int) 2 55 0 0 w0 [.ref a_ta] (fun r w2 => r = some (.int ((f_X5_spoonsAtWorst left needs fits).1)) ∧ w2 a_left = some (.inl (g.2.2.1 0, 729, .inl ((f_X5_spoonsAtWorst left needs fits).2.1))) ∧ w2 a_needs = some (.inl (g.2.2.1 0, 729, .inl ((f_X5_spoonsAtWorst left needs fits).2.2))) ∧ wE (fun q => q = a_left ∨ q = a_needs) w0 w2) := by
  refine CT.of (own := RX5) (by decide +kernel) rfl (Nat.le_of_ble_eq_true rfl) (fun X hC hR hI => ?_)
  show V g X 2 w0 0 0 0 [(0, .ref a_ta)] []
  have hE : wE (fun q => q = a_left ∨ q = a_needs) w0 w0 := wE.refl
  refine vv_iconst (v := 0) hC dX5_spoonsAtWorst_0 (by decide) ?_
  refine vv_istore_n (lv2 := [(1, .int 0), (0, .ref a_ta)]) hC dX5_spoonsAtWorst_1 rfl (by decide) rfl ?_
  have hL4 : ∀ (r2 k2 : Nat) (y_left_2 : Nat → Int32) (y_needs_2 : Nat → Int32) (w1 : Wd) (out : (Nat → Int32) × (Nat → Int32)), k2 + r2 = 729 → out = f_X5_spoonsAtWorst_L2 fits r2 k2 y_left_2 y_needs_2 → w1 a_ta = some (.inr (5, cTa a_fits a_left a_needs (ta_people, ta_away, ta_unseenWays, ta_seenHouses))) → w1 a_left = some (.inl (g.2.2.1 0, 729, .inl y_left_2)) → w1 a_needs = some (.inl (g.2.2.1 0, 729, .inl y_needs_2)) → w1 a_fits = some (.inl (g.2.2.1 1, 64, .inr (.inl fits))) → wE (fun q => q = a_left ∨ q = a_needs) w0 w1 → (∀ w3 : Wd, w3 a_ta = some (.inr (5, cTa a_fits a_left a_needs (ta_people, ta_away, ta_unseenWays, ta_seenHouses))) → w3 a_left = some (.inl (g.2.2.1 0, 729, .inl out.1)) → w3 a_needs = some (.inl (g.2.2.1 0, 729, .inl out.2)) → w3 a_fits = some (.inl (g.2.2.1 1, 64, .inr (.inl fits))) → wE (fun q => q = a_left ∨ q = a_needs) w0 w3 → V g X 2 w3 0 0 20 [(0, .ref a_ta)] []) → V g X 2 w1 0 0 2 [(0, .ref a_ta), (1, .int (nI k2))] [] := by
    intro r2
    induction r2 with
    | zero =>
      intro k2 y_left_2 y_needs_2 w1 out hb ho h_ta h_left h_needs h_fits hE hk
      refine vv_iload_n hC 1 dX5_spoonsAtWorst_2 rfl rfl ?_
      refine vv_sipush (v := (729)) hC dX5_spoonsAtWorst_3 (by decide) ?_
      refine vv_icmp_ge hC 20 dX5_spoonsAtWorst_6 (by decide) (fun c => ?_) (fun c => False.elim (c ((nI_le_ (a := 729) (b := k2) (by omega) (by omega)).mpr (by omega))))
      refine vv_lv [0] rfl ?_
      have ho := ho.trans (by first | (simp only [f_X5_spoonsAtWorst_L2]; done) | rfl | (simp only [f_X5_spoonsAtWorst_L2]; rfl) : _ = (y_left_2, y_needs_2))
      subst ho
      exact hk w1 h_ta h_left h_needs h_fits hE
    | succ r2 ih =>
      intro k2 y_left_2 y_needs_2 w1 out hb ho h_ta h_left h_needs h_fits hE hk
      refine vv_iload_n hC 1 dX5_spoonsAtWorst_2 rfl rfl ?_
      refine vv_sipush (v := (729)) hC dX5_spoonsAtWorst_3 (by decide) ?_
      refine vv_icmp_ge hC 20 dX5_spoonsAtWorst_6 (by decide) (fun c => absurd ((nI_le_ (a := 729) (b := k2) (by omega) (by omega)).mp c) (by first | omega | decide)) (fun c => ?_)
      refine vv_aload_n hC 0 dX5_spoonsAtWorst_9 rfl rfl ?_
      refine vv_iload_n hC 1 dX5_spoonsAtWorst_10 rfl rfl ?_
      refine vv_callV hC dX5_spoonsAtWorst_11 md_X5_fillCube lk_m_X5_124 lk_i_X5_fillCube lk_s_X5_fillCube h_ta rfl (As := [.int (nI k2)]) (rest := []) (c_X5_fillCube g w1 a_ta a_fits a_left a_needs ta_people ta_away ta_unseenWays ta_seenHouses y_left_2 y_needs_2 fits (nI k2) h_ta h_left h_needs h_fits ne_fits_left ne_fits_needs ne_left_needs) rfl rfl (Nat.le_of_ble_eq_true rfl) ⟨by decide, by decide, by decide, by decide⟩ (fun r w9 hq => ?_)
      obtain ⟨rfl, t1, t2, hs⟩ := hq
      obtain ⟨w2, rfl⟩ : ∃ z, z = w9 := ⟨_, rfl⟩
      have h_ta := hs _ _ (fun z => z.elim (fw_oa h_ta h_left) (fw_oa h_ta h_needs)) h_ta
      have h_fits := hs _ _ (fun z => z.elim ne_fits_left ne_fits_needs) h_fits
      have h_left := t1
      have h_needs := t2
      have hE := hE.trans (hs.mono (fun _ z => z.elim (fun z => (Or.inl z)) (fun z => (Or.inr z))))
      show V g X 2 w2 0 0 14 [(0, .ref a_ta), (1, .int (nI k2))] []
      refine vv_iinc (lv2 := [(1, .int (nI (k2 + 1))), (0, .ref a_ta)]) hC 1 dX5_spoonsAtWorst_14 rfl (nI_add k2 1) (by decide) rfl ?_
      refine vv_goto hC 2 dX5_spoonsAtWorst_17 (by decide) ?_
      refine vv_lv [1, 0] rfl ?_
      exact ih (k2 + 1) ((f_X5_fillCube y_left_2 y_needs_2 fits (nI k2)).1) ((f_X5_fillCube y_left_2 y_needs_2 fits (nI k2)).2) w2 out (by omega) (ho.trans (by first | (simp only [f_X5_spoonsAtWorst_L2]; done) | rfl | (simp only [f_X5_spoonsAtWorst_L2]; rfl))) h_ta h_left h_needs h_fits hE hk
  refine vv_lv [1, 0] rfl ?_
  refine hL4 729 0 left needs w0 (f_X5_spoonsAtWorst_L2 fits 729 0 left needs) (by omega) rfl h_ta h_left h_needs h_fits hE ?_
  intro w3 h_ta h_left h_needs h_fits hE
  refine vv_aload_n hC 0 dX5_spoonsAtWorst_20 rfl rfl ?_
  refine vv_get (v := .ref a_needs) hC fl_X5_19 dX5_spoonsAtWorst_21 h_ta rfl ?_
  refine vv_sipush (v := (728)) hC dX5_spoonsAtWorst_24 (by decide) ?_
  refine vv_callSN hC dX5_spoonsAtWorst_27 md_X8_at lk_n_X5_128 lk_t_X8_at (As := [.ref a_needs, .int 728]) (rest := []) (c_X8_at g w3 a_needs 729 ((f_X5_spoonsAtWorst_L2 fits 729 0 left needs).2) 728 (by decide) h_needs) rfl rfl (Nat.le_of_ble_eq_true rfl) ⟨by decide, by decide, by decide, by decide⟩ (fun r w9 hq => ?_)
  obtain ⟨rfl, rfl⟩ := hq
  show V g X 2 w3 0 0 30 [(0, .ref a_ta)] [.int (f_X8_at ((f_X5_spoonsAtWorst_L2 fits 729 0 left needs).2) 729 728)]
  have hf : (f_X5_spoonsAtWorst left needs fits) = (f_X8_at ((f_X5_spoonsAtWorst_L2 fits 729 0 left needs).2) 729 728, (f_X5_spoonsAtWorst_L2 fits 729 0 left needs).1, (f_X5_spoonsAtWorst_L2 fits 729 0 left needs).2) := by first | (simp only [f_X5_spoonsAtWorst]; done) | rfl | (simp only [f_X5_spoonsAtWorst]; rfl)
  refine vv_iret hC hR rfl dX5_spoonsAtWorst_30 (by omega) (by omega) ?_
  rw [hf]
  try dsimp only
  exact ⟨rfl, h_left, h_needs, hE⟩
