def f_X8_sure_x1 (tales_away : Int32) (tales_unseenWays : Int64) (tales_seenHouses : Int64) (village : TVi) (now : TN) (sights_count : Nat) (fits : Nat → Int64) (kinds : Nat → Int32) (moons : Nat → Int32) (places : Nat → Int32) (values : Nat → Int32) (p1 : Int32) : Int32 := (if p1 = 1 then (f_X2_there now village &&& (f_X5_inSome ((f_X8_tellTales tales_away tales_unseenWays tales_seenHouses village now sights_count fits kinds moons places values).2.2.2.2) ^^^ (-1))) else f_X5_inSome ((f_X8_tellTales tales_away tales_unseenWays tales_seenHouses village now sights_count fits kinds moons places values).2.2.2.2))
def f_X8_sure (tales_people : Nat) (tales_away : Int32) (tales_unseenWays : Int64) (tales_seenHouses : Int64) (village : TVi) (now : TN) (sights_count : Nat) (fits : Nat → Int64) (kinds : Nat → Int32) (moons : Nat → Int32) (places : Nat → Int32) (values : Nat → Int32) (p1 : Int32) : Int32 × Nat × Int32 × Int64 × Int64 × (Nat → Int64) := (if p1 < 0 then ((-2), tales_people, tales_away, tales_unseenWays, tales_seenHouses, fits) else (if p1 ≤ 2 then (if f_X5_setCount ((f_X8_tellTales tales_away tales_unseenWays tales_seenHouses village now sights_count fits kinds moons places values).2.2.2.2) = 0 then ((-9), (f_X8_tellTales tales_away tales_unseenWays tales_seenHouses village now sights_count fits kinds moons places values).1, (f_X8_tellTales tales_away tales_unseenWays tales_seenHouses village now sights_count fits kinds moons places values).2.1, (f_X8_tellTales tales_away tales_unseenWays tales_seenHouses village now sights_count fits kinds moons places values).2.2.1, (f_X8_tellTales tales_away tales_unseenWays tales_seenHouses village now sights_count fits kinds moons places values).2.2.2.1, (f_X8_tellTales tales_away tales_unseenWays tales_seenHouses village now sights_count fits kinds moons places values).2.2.2.2) else (if p1 = 0 then (f_X5_inAll ((f_X8_tellTales tales_away tales_unseenWays tales_seenHouses village now sights_count fits kinds moons places values).1) ((f_X8_tellTales tales_away tales_unseenWays tales_seenHouses village now sights_count fits kinds moons places values).2.2.2.2), (f_X8_tellTales tales_away tales_unseenWays tales_seenHouses village now sights_count fits kinds moons places values).1, (f_X8_tellTales tales_away tales_unseenWays tales_seenHouses village now sights_count fits kinds moons places values).2.1, (f_X8_tellTales tales_away tales_unseenWays tales_seenHouses village now sights_count fits kinds moons places values).2.2.1, (f_X8_tellTales tales_away tales_unseenWays tales_seenHouses village now sights_count fits kinds moons places values).2.2.2.1, (f_X8_tellTales tales_away tales_unseenWays tales_seenHouses village now sights_count fits kinds moons places values).2.2.2.2) else ((f_X8_sure_x1 tales_away tales_unseenWays tales_seenHouses village now sights_count fits kinds moons places values p1), (f_X8_tellTales tales_away tales_unseenWays tales_seenHouses village now sights_count fits kinds moons places values).1, (f_X8_tellTales tales_away tales_unseenWays tales_seenHouses village now sights_count fits kinds moons places values).2.1, (f_X8_tellTales tales_away tales_unseenWays tales_seenHouses village now sights_count fits kinds moons places values).2.2.1, (f_X8_tellTales tales_away tales_unseenWays tales_seenHouses village now sights_count fits kinds moons places values).2.2.2.1, (f_X8_tellTales tales_away tales_unseenWays tales_seenHouses village now sights_count fits kinds moons places values).2.2.2.2))) else ((-2), tales_people, tales_away, tales_unseenWays, tales_seenHouses, fits)))
set_option maxHeartbeats 4000000 in
set_option maxRecDepth 100000 in
theorem c_X8_sure (g : GT) (w0 : Wd) (A : Nat → Nat) (hA : ∀ i j, i < 60 → j < 60 → A i = A j → i = j) (vi : Nat) (who_keptSlots : Int32) (who_seed : Int64) (tales_people : Nat) (tales_away : Int32) (tales_unseenWays : Int64) (tales_seenHouses : Int64) (village : TVi) (now : TN) (sights_count : Nat) (fits : Nat → Int64) (kinds : Nat → Int32) (moons : Nat → Int32) (places : Nat → Int32) (values : Nat → Int32) (p1 : Int32) (hvh : gVi_houses village ≤ 4) (hvp : gVi_people village ≤ 6) (hsc : sights_count ≤ 6) (h_who : w0 (A 0) = some (.inr (8, cWh A vi (who_keptSlots, who_seed)))) (h_tales : w0 (A 13) = some (.inr (5, cTa (A 14) (A 15) (A 16) (tales_people, tales_away, tales_unseenWays, tales_seenHouses)))) (h_village : w0 vi = some (.inr (7, cVi village))) (h_now : w0 (A 3) = some (.inr (2, cN now))) (h_sights : w0 (A 8) = some (.inr (4, cSi (A 9) (A 10) (A 11) (A 12) sights_count))) (h_fits : w0 (A 14) = some (.inl (g.2.2.1 1, 64, .inr (.inl fits)))) (h_kinds : w0 (A 9) = some (.inl (g.2.2.1 0, 6, .inl kinds))) (h_moons : w0 (A 10) = some (.inl (g.2.2.1 0, 6, .inl moons))) (h_places : w0 (A 11) = some (.inl (g.2.2.1 0, 6, .inl places))) (h_values : w0 (A 12) = some (.inl (g.2.2.1 0, 6, .inl values))) : CT g yX8_sure cX8_sure 2 (some .int) 9 258 0 0 w0 [.ref (A 0), .int p1] (fun r w2 => r = some (.int ((f_X8_sure tales_people tales_away tales_unseenWays tales_seenHouses village now sights_count fits kinds moons places values p1).1)) ∧ w2 (A 13) = some (.inr (5, cTa (A 14) (A 15) (A 16) ((f_X8_sure tales_people tales_away tales_unseenWays tales_seenHouses village now sights_count fits kinds moons places values p1).2.1, (f_X8_sure tales_people tales_away tales_unseenWays tales_seenHouses village now sights_count fits kinds moons places values p1).2.2.1, (f_X8_sure tales_people tales_away tales_unseenWays tales_seenHouses village now sights_count fits kinds moons places values p1).2.2.2.1, (f_X8_sure tales_people tales_away tales_unseenWays tales_seenHouses village now sights_count fits kinds moons places values p1).2.2.2.2.1))) ∧ w2 (A 14) = some (.inl (g.2.2.1 1, 64, .inr (.inl ((f_X8_sure tales_people tales_away tales_unseenWays tales_seenHouses village now sights_count fits kinds moons places values p1).2.2.2.2.2)))) ∧ wE (fun q => q = (A 13) ∨ q = (A 14)) w0 w2) := by
  refine CT.of (own := RX8) (by decide +kernel) rfl (Nat.le_of_ble_eq_true rfl) (fun X hC hR hI => ?_)
  show V g X 2 w0 0 0 0 [(0, .ref (A 0)), (1, .int p1)] []
  have hE : wE (fun q => q = (A 13) ∨ q = (A 14)) w0 w0 := wE.refl
  refine vv_iload_n hC 1 dX8_sure_0 rfl rfl ?_
  refine vv_if_lt hC 9 dX8_sure_1 (by decide) (fun c1 => ?_) (fun c1 => ?_)
  · have c1 : p1 < 0 := c1
    refine vv_bipush (v := (-2)) hC dX8_sure_9 (by decide) ?_
    have hf : (f_X8_sure tales_people tales_away tales_unseenWays tales_seenHouses village now sights_count fits kinds moons places values p1) = ((-2), tales_people, tales_away, tales_unseenWays, tales_seenHouses, fits) := by first | (simp only [f_X8_sure, if_pos c1]; done) | rfl | (simp only [f_X8_sure, if_pos c1]; rfl)
    refine vv_iret hC hR rfl dX8_sure_11 (by omega) (by omega) ?_
    rw [hf]
    try dsimp only
    exact ⟨rfl, h_tales, h_fits, hE⟩
  · have c1 : ¬ (p1 < 0) := c1
    refine vv_iload_n hC 1 dX8_sure_4 rfl rfl ?_
    refine vv_iconst (v := 2) hC dX8_sure_5 (by decide) ?_
    refine vv_icmp_le hC 12 dX8_sure_6 (by decide) (fun c2 => ?_) (fun c2 => ?_)
    · have c2 : p1 ≤ 2 := c2
      refine vv_aload_n hC 0 dX8_sure_12 rfl rfl ?_
      refine vv_callV hC dX8_sure_13 md_X8_tellTales lk_m_X8_220 lk_i_X8_tellTales lk_s_X8_tellTales h_who rfl (As := []) (rest := []) (c_X8_tellTales g w0 A hA vi who_keptSlots who_seed tales_people tales_away tales_unseenWays tales_seenHouses village now sights_count fits kinds moons places values (by omega) (by omega) (by omega) h_who h_tales h_village h_now h_sights h_fits h_kinds h_moons h_places h_values) rfl rfl (Nat.le_of_ble_eq_true rfl) ⟨by decide, by decide, by decide, by decide⟩ (fun r w9 hq => ?_)
      obtain ⟨rfl, t1, t2, hs⟩ := hq
      obtain ⟨w3, rfl⟩ : ∃ z, z = w9 := ⟨_, rfl⟩
      have h_who := hs _ _ (fun z => z.elim (fw_oo h_who h_tales (by decide)) (fw_oa h_who h_fits)) h_who
      have h_village := hs _ _ (fun z => z.elim (fw_oo h_village h_tales (by decide)) (fw_oa h_village h_fits)) h_village
      have h_now := hs _ _ (fun z => z.elim (fw_oo h_now h_tales (by decide)) (fw_oa h_now h_fits)) h_now
      have h_sights := hs _ _ (fun z => z.elim (fw_oo h_sights h_tales (by decide)) (fw_oa h_sights h_fits)) h_sights
      have h_kinds := hs _ _ (fun z => z.elim (fw_ao h_kinds h_tales) (fw_inj hA (by decide) (by decide) (by decide))) h_kinds
      have h_moons := hs _ _ (fun z => z.elim (fw_ao h_moons h_tales) (fw_inj hA (by decide) (by decide) (by decide))) h_moons
      have h_places := hs _ _ (fun z => z.elim (fw_ao h_places h_tales) (fw_inj hA (by decide) (by decide) (by decide))) h_places
      have h_values := hs _ _ (fun z => z.elim (fw_ao h_values h_tales) (fw_inj hA (by decide) (by decide) (by decide))) h_values
      have h_tales := t1
      have h_fits := t2
      have hE := hE.trans (hs.mono (fun _ z => z.elim (fun z => (Or.inl z)) (fun z => (Or.inr z))))
      show V g X 2 w3 0 0 16 [(0, .ref (A 0)), (1, .int p1)] []
      refine vv_aload_n hC 0 dX8_sure_16 rfl rfl ?_
      refine vv_get (v := .ref (A 13)) hC fl_X8_58 dX8_sure_17 h_who rfl ?_
      refine vv_callV hC dX8_sure_20 md_X5_setCount lk_m_X8_227 lk_i_X5_setCount lk_s_X5_setCount h_tales rfl (As := []) (rest := []) (c_X5_setCount g w3 (A 13) (A 14) (A 15) (A 16) ((f_X8_tellTales tales_away tales_unseenWays tales_seenHouses village now sights_count fits kinds moons places values).1) ((f_X8_tellTales tales_away tales_unseenWays tales_seenHouses village now sights_count fits kinds moons places values).2.1) ((f_X8_tellTales tales_away tales_unseenWays tales_seenHouses village now sights_count fits kinds moons places values).2.2.1) ((f_X8_tellTales tales_away tales_unseenWays tales_seenHouses village now sights_count fits kinds moons places values).2.2.2.1) ((f_X8_tellTales tales_away tales_unseenWays tales_seenHouses village now sights_count fits kinds moons places values).2.2.2.2) h_tales h_fits) rfl rfl (Nat.le_of_ble_eq_true rfl) ⟨by decide, by decide, by decide, by decide⟩ (fun r w9 hq => ?_)
      obtain ⟨rfl, rfl⟩ := hq
      show V g X 2 w3 0 0 23 [(0, .ref (A 0)), (1, .int p1)] [.int (f_X5_setCount ((f_X8_tellTales tales_away tales_unseenWays tales_seenHouses village now sights_count fits kinds moons places values).2.2.2.2))]
      refine vv_if_ne hC 29 dX8_sure_23 (by decide) (fun c4 => ?_) (fun c4 => ?_)
      · have c4 : ¬ (f_X5_setCount ((f_X8_tellTales tales_away tales_unseenWays tales_seenHouses village now sights_count fits kinds moons places values).2.2.2.2) = 0) := c4
        refine vv_iload_n hC 1 dX8_sure_29 rfl rfl ?_
        refine vv_if_ne hC 41 dX8_sure_30 (by decide) (fun c5 => ?_) (fun c5 => ?_)
        · have c5 : ¬ (p1 = 0) := c5
          refine vv_iload_n hC 1 dX8_sure_41 rfl rfl ?_
          refine vv_iconst (v := 1) hC dX8_sure_42 (by decide) ?_
          have hJ7 : V g X 2 w3 0 0 77 [(0, .ref (A 0)), (1, .int p1)] [.int (f_X8_sure_x1 tales_away tales_unseenWays tales_seenHouses village now sights_count fits kinds moons places values p1)] := by
            have hf : (f_X8_sure tales_people tales_away tales_unseenWays tales_seenHouses village now sights_count fits kinds moons places values p1) = ((f_X8_sure_x1 tales_away tales_unseenWays tales_seenHouses village now sights_count fits kinds moons places values p1), (f_X8_tellTales tales_away tales_unseenWays tales_seenHouses village now sights_count fits kinds moons places values).1, (f_X8_tellTales tales_away tales_unseenWays tales_seenHouses village now sights_count fits kinds moons places values).2.1, (f_X8_tellTales tales_away tales_unseenWays tales_seenHouses village now sights_count fits kinds moons places values).2.2.1, (f_X8_tellTales tales_away tales_unseenWays tales_seenHouses village now sights_count fits kinds moons places values).2.2.2.1, (f_X8_tellTales tales_away tales_unseenWays tales_seenHouses village now sights_count fits kinds moons places values).2.2.2.2) := by first | (simp only [f_X8_sure, if_neg c1, if_pos c2, if_neg c4, if_neg c5]; done) | rfl | (simp only [f_X8_sure, if_neg c1, if_pos c2, if_neg c4, if_neg c5]; rfl)
            refine vv_iret hC hR rfl dX8_sure_77 (by omega) (by omega) ?_
            rw [hf]
            try dsimp only
            exact ⟨rfl, h_tales, h_fits, hE⟩
          refine vv_icmp_ne hC 70 dX8_sure_43 (by decide) (fun c6 => ?_) (fun c6 => ?_)
          · have c6 : ¬ (p1 = 1) := c6
            refine vv_aload_n hC 0 dX8_sure_70 rfl rfl ?_
            refine vv_get (v := .ref (A 13)) hC fl_X8_58 dX8_sure_71 h_who rfl ?_
            refine vv_callV hC dX8_sure_74 md_X5_inSome lk_m_X8_240 lk_i_X5_inSome lk_s_X5_inSome h_tales rfl (As := []) (rest := []) (c_X5_inSome g w3 (A 13) (A 14) (A 15) (A 16) ((f_X8_tellTales tales_away tales_unseenWays tales_seenHouses village now sights_count fits kinds moons places values).1) ((f_X8_tellTales tales_away tales_unseenWays tales_seenHouses village now sights_count fits kinds moons places values).2.1) ((f_X8_tellTales tales_away tales_unseenWays tales_seenHouses village now sights_count fits kinds moons places values).2.2.1) ((f_X8_tellTales tales_away tales_unseenWays tales_seenHouses village now sights_count fits kinds moons places values).2.2.2.1) ((f_X8_tellTales tales_away tales_unseenWays tales_seenHouses village now sights_count fits kinds moons places values).2.2.2.2) h_tales h_fits) rfl rfl (Nat.le_of_ble_eq_true rfl) ⟨by decide, by decide, by decide, by decide⟩ (fun r w9 hq => ?_)
            obtain ⟨rfl, rfl⟩ := hq
            show V g X 2 w3 0 0 77 [(0, .ref (A 0)), (1, .int p1)] [.int (f_X5_inSome ((f_X8_tellTales tales_away tales_unseenWays tales_seenHouses village now sights_count fits kinds moons places values).2.2.2.2))]
            have hz := hJ7
            try simp only [f_X8_sure_x1, if_neg c6] at hz
            first | exact hz | (simp only [f_X8_sure_x1, if_neg c6]; exact hz)
          · have c6 : p1 = 1 := c6
            refine vv_aload_n hC 0 dX8_sure_46 rfl rfl ?_
            refine vv_get (v := .ref (A 3)) hC fl_X8_26 dX8_sure_47 h_who rfl ?_
            refine vv_aload_n hC 0 dX8_sure_50 rfl rfl ?_
            refine vv_get (v := .ref vi) hC fl_X8_19 dX8_sure_51 h_who rfl ?_
            refine vv_callV hC dX8_sure_54 md_X2_there lk_m_X8_236 lk_i_X2_there lk_s_X2_there h_now rfl (As := [.ref vi]) (rest := []) (c_X2_there g w3 (A 3) vi now village h_now h_village) rfl rfl (Nat.le_of_ble_eq_true rfl) ⟨by decide, by decide, by decide, by decide⟩ (fun r w9 hq => ?_)
            obtain ⟨rfl, rfl⟩ := hq
            show V g X 2 w3 0 0 57 [(0, .ref (A 0)), (1, .int p1)] [.int (f_X2_there now village)]
            refine vv_aload_n hC 0 dX8_sure_57 rfl rfl ?_
            refine vv_get (v := .ref (A 13)) hC fl_X8_58 dX8_sure_58 h_who rfl ?_
            refine vv_callV hC dX8_sure_61 md_X5_inSome lk_m_X8_240 lk_i_X5_inSome lk_s_X5_inSome h_tales rfl (As := []) (rest := [.int (f_X2_there now village)]) (c_X5_inSome g w3 (A 13) (A 14) (A 15) (A 16) ((f_X8_tellTales tales_away tales_unseenWays tales_seenHouses village now sights_count fits kinds moons places values).1) ((f_X8_tellTales tales_away tales_unseenWays tales_seenHouses village now sights_count fits kinds moons places values).2.1) ((f_X8_tellTales tales_away tales_unseenWays tales_seenHouses village now sights_count fits kinds moons places values).2.2.1) ((f_X8_tellTales tales_away tales_unseenWays tales_seenHouses village now sights_count fits kinds moons places values).2.2.2.1) ((f_X8_tellTales tales_away tales_unseenWays tales_seenHouses village now sights_count fits kinds moons places values).2.2.2.2) h_tales h_fits) rfl rfl (Nat.le_of_ble_eq_true rfl) ⟨by decide, by decide, by decide, by decide⟩ (fun r w9 hq => ?_)
            obtain ⟨rfl, rfl⟩ := hq
            show V g X 2 w3 0 0 64 [(0, .ref (A 0)), (1, .int p1)] [.int (f_X5_inSome ((f_X8_tellTales tales_away tales_unseenWays tales_seenHouses village now sights_count fits kinds moons places values).2.2.2.2)), .int (f_X2_there now village)]
            refine vv_iconst (v := (-1)) hC dX8_sure_64 (by decide) ?_
            refine vv_ixor hC dX8_sure_65 ?_
            refine vv_iand hC dX8_sure_66 ?_
            refine vv_goto hC 77 dX8_sure_67 (by decide) ?_
            have hz := hJ7
            try simp only [f_X8_sure_x1, if_pos c6] at hz
            first | exact hz | (simp only [f_X8_sure_x1, if_pos c6]; exact hz)
        · have c5 : p1 = 0 := c5
          refine vv_aload_n hC 0 dX8_sure_33 rfl rfl ?_
          refine vv_get (v := .ref (A 13)) hC fl_X8_58 dX8_sure_34 h_who rfl ?_
          refine vv_callV hC dX8_sure_37 md_X5_inAll lk_m_X8_233 lk_i_X5_inAll lk_s_X5_inAll h_tales rfl (As := []) (rest := []) (c_X5_inAll g w3 (A 13) (A 14) (A 15) (A 16) ((f_X8_tellTales tales_away tales_unseenWays tales_seenHouses village now sights_count fits kinds moons places values).1) ((f_X8_tellTales tales_away tales_unseenWays tales_seenHouses village now sights_count fits kinds moons places values).2.1) ((f_X8_tellTales tales_away tales_unseenWays tales_seenHouses village now sights_count fits kinds moons places values).2.2.1) ((f_X8_tellTales tales_away tales_unseenWays tales_seenHouses village now sights_count fits kinds moons places values).2.2.2.1) ((f_X8_tellTales tales_away tales_unseenWays tales_seenHouses village now sights_count fits kinds moons places values).2.2.2.2) h_tales h_fits) rfl rfl (Nat.le_of_ble_eq_true rfl) ⟨by decide, by decide, by decide, by decide⟩ (fun r w9 hq => ?_)
          obtain ⟨rfl, rfl⟩ := hq
          show V g X 2 w3 0 0 40 [(0, .ref (A 0)), (1, .int p1)] [.int (f_X5_inAll ((f_X8_tellTales tales_away tales_unseenWays tales_seenHouses village now sights_count fits kinds moons places values).1) ((f_X8_tellTales tales_away tales_unseenWays tales_seenHouses village now sights_count fits kinds moons places values).2.2.2.2))]
          have hf : (f_X8_sure tales_people tales_away tales_unseenWays tales_seenHouses village now sights_count fits kinds moons places values p1) = (f_X5_inAll ((f_X8_tellTales tales_away tales_unseenWays tales_seenHouses village now sights_count fits kinds moons places values).1) ((f_X8_tellTales tales_away tales_unseenWays tales_seenHouses village now sights_count fits kinds moons places values).2.2.2.2), (f_X8_tellTales tales_away tales_unseenWays tales_seenHouses village now sights_count fits kinds moons places values).1, (f_X8_tellTales tales_away tales_unseenWays tales_seenHouses village now sights_count fits kinds moons places values).2.1, (f_X8_tellTales tales_away tales_unseenWays tales_seenHouses village now sights_count fits kinds moons places values).2.2.1, (f_X8_tellTales tales_away tales_unseenWays tales_seenHouses village now sights_count fits kinds moons places values).2.2.2.1, (f_X8_tellTales tales_away tales_unseenWays tales_seenHouses village now sights_count fits kinds moons places values).2.2.2.2) := by first | (simp only [f_X8_sure, if_neg c1, if_pos c2, if_neg c4, if_pos c5]; done) | rfl | (simp only [f_X8_sure, if_neg c1, if_pos c2, if_neg c4, if_pos c5]; rfl)
          refine vv_iret hC hR rfl dX8_sure_40 (by omega) (by omega) ?_
          rw [hf]
          try dsimp only
          exact ⟨rfl, h_tales, h_fits, hE⟩
      · have c4 : f_X5_setCount ((f_X8_tellTales tales_away tales_unseenWays tales_seenHouses village now sights_count fits kinds moons places values).2.2.2.2) = 0 := c4
        refine vv_bipush (v := (-9)) hC dX8_sure_26 (by decide) ?_
        have hf : (f_X8_sure tales_people tales_away tales_unseenWays tales_seenHouses village now sights_count fits kinds moons places values p1) = ((-9), (f_X8_tellTales tales_away tales_unseenWays tales_seenHouses village now sights_count fits kinds moons places values).1, (f_X8_tellTales tales_away tales_unseenWays tales_seenHouses village now sights_count fits kinds moons places values).2.1, (f_X8_tellTales tales_away tales_unseenWays tales_seenHouses village now sights_count fits kinds moons places values).2.2.1, (f_X8_tellTales tales_away tales_unseenWays tales_seenHouses village now sights_count fits kinds moons places values).2.2.2.1, (f_X8_tellTales tales_away tales_unseenWays tales_seenHouses village now sights_count fits kinds moons places values).2.2.2.2) := by first | (simp only [f_X8_sure, if_neg c1, if_pos c2, if_pos c4]; done) | rfl | (simp only [f_X8_sure, if_neg c1, if_pos c2, if_pos c4]; rfl)
        refine vv_iret hC hR rfl dX8_sure_28 (by omega) (by omega) ?_
        rw [hf]
        try dsimp only
        exact ⟨rfl, h_tales, h_fits, hE⟩
    · have c2 : ¬ (p1 ≤ 2) := c2
      refine vv_bipush (v := (-2)) hC dX8_sure_9 (by decide) ?_
      have hf : (f_X8_sure tales_people tales_away tales_unseenWays tales_seenHouses village now sights_count fits kinds moons places values p1) = ((-2), tales_people, tales_away, tales_unseenWays, tales_seenHouses, fits) := by first | (simp only [f_X8_sure, if_neg c1, if_neg c2]; done) | rfl | (simp only [f_X8_sure, if_neg c1, if_neg c2]; rfl)
      refine vv_iret hC hR rfl dX8_sure_11 (by omega) (by omega) ?_
      rw [hf]
      try dsimp only
      exact ⟨rfl, h_tales, h_fits, hE⟩
def f_X8_partOf_L9 : Nat → Nat → Int64 → Int64 → Int64 × Int64
  | 0, k9, l5_9, l7_9 => (l5_9, l7_9)
  | r9 + 1, k9, l5_9, l7_9 => (if l7_9 = 0 then (l5_9, l7_9) else f_X8_partOf_L9 r9 (k9 + 1) l7_9 (l5_9 - l5_9 / l7_9 * l7_9))
def f_X8_partOf (p0 : Int64) (p2 : Int64) (p4 : Bool) : Int64 := (if (f_X8_partOf_L9 100 0 p2 p0).1 = 0 then 0 else (if p4 = true then (p0 / (f_X8_partOf_L9 100 0 p2 p0).1) else (p2 / (f_X8_partOf_L9 100 0 p2 p0).1)))
set_option maxHeartbeats 4000000 in
set_option maxRecDepth 100000 in
theorem c_X8_partOf (g : GT) (w0 : Wd) (p0 : Int64) (p2 : Int64) (p4 : Bool) : CT g yX8_partOf cX8_partOf 12 (some .long) 0 0 0 0 w0 [.long p0, .long p2, .int (bI p4)] (fun r w2 => r = some (.long (f_X8_partOf p0 p2 p4)) ∧ w0 = w2) := by
  refine CT.of (own := RX8) (by decide +kernel) rfl (Nat.le_of_ble_eq_true rfl) (fun X hC hR hI => ?_)
  show V g X 12 w0 0 0 0 [(0, .long p0), (2, .long p2), (4, .int (bI p4))] []
  refine vv_lload_n hC 1 dX8_partOf_0 rfl rfl ?_
  refine vv_lstore (lv2 := [(5, .long p2), (0, .long p0), (2, .long p2), (4, .int (bI p4))]) hC dX8_partOf_1 (by decide) rfl ?_
  refine vv_lload_n hC 1 dX8_partOf_3 rfl rfl ?_
  refine vv_lstore (lv2 := [(7, .long p0), (5, .long p2), (0, .long p0), (2, .long p2), (4, .int (bI p4))]) hC dX8_partOf_4 (by decide) rfl ?_
  refine vv_iconst (v := 0) hC dX8_partOf_6 (by decide) ?_
  refine vv_istore (lv2 := [(9, .int 0), (7, .long p0), (5, .long p2), (0, .long p0), (2, .long p2), (4, .int (bI p4))]) hC dX8_partOf_7 (by decide) rfl ?_
  have hL2 : ∀ (r9 k9 : Nat) (l5_9 : Int64) (l7_9 : Int64) (out : Int64 × Int64), k9 + r9 = 100 → out = f_X8_partOf_L9 r9 k9 l5_9 l7_9 → V g X 12 w0 0 0 44 [(0, .long p0), (2, .long p2), (4, .int (bI p4)), (5, .long out.1), (7, .long out.2)] [] → V g X 12 w0 0 0 9 [(0, .long p0), (2, .long p2), (4, .int (bI p4)), (5, .long l5_9), (7, .long l7_9), (9, .int (nI k9))] [] := by
    intro r9
    induction r9 with
    | zero =>
      intro k9 l5_9 l7_9 out hb ho hk
      refine vv_iload hC 5 dX8_partOf_9 rfl ?_
      refine vv_bipush (v := (100)) hC dX8_partOf_11 (by decide) ?_
      refine vv_icmp_ge hC 44 dX8_partOf_13 (by decide) (fun c => ?_) (fun c => False.elim (c ((nI_le_ (a := 100) (b := k9) (by omega) (by omega)).mpr (by omega))))
      refine vv_lv [0, 1, 2, 3, 4] rfl ?_
      have ho := ho.trans (by first | (simp only [f_X8_partOf_L9]; done) | rfl | (simp only [f_X8_partOf_L9]; rfl) : _ = (l5_9, l7_9))
      subst ho
      exact hk
    | succ r9 ih =>
      intro k9 l5_9 l7_9 out hb ho hk
      refine vv_iload hC 5 dX8_partOf_9 rfl ?_
      refine vv_bipush (v := (100)) hC dX8_partOf_11 (by decide) ?_
      refine vv_icmp_ge hC 44 dX8_partOf_13 (by decide) (fun c => absurd ((nI_le_ (a := 100) (b := k9) (by omega) (by omega)).mp c) (by first | omega | decide)) (fun c => ?_)
      refine vv_lload hC 4 dX8_partOf_16 rfl ?_
      refine vv_lconst (v := 0) hC dX8_partOf_18 (by decide) ?_
      refine vv_lcmp hC dX8_partOf_19 ?_
      refine vv_if_eq hC 44 dX8_partOf_20 (by decide) (fun c1 => ?_) (fun c1 => ?_)
      · have c1 : l7_9 = 0 := lc_eq c1
        refine vv_lv [0, 1, 2, 3, 4] rfl ?_
        have ho := ho.trans (by first | (simp only [f_X8_partOf_L9, if_pos c1]; done) | rfl | (simp only [f_X8_partOf_L9, if_pos c1]; rfl) : _ = (l5_9, l7_9))
        subst ho
        exact hk
      · have c1 : ¬ (l7_9 = 0) := lc_ne c1
        refine vv_lload hC 3 dX8_partOf_23 rfl ?_
        refine vv_lload hC 4 dX8_partOf_25 rfl ?_
        refine vv_lrem hC dX8_partOf_27 c1 ?_
        refine vv_lstore (lv2 := [(10, .long (l5_9 - l5_9 / l7_9 * l7_9)), (0, .long p0), (2, .long p2), (4, .int (bI p4)), (5, .long l5_9), (7, .long l7_9), (9, .int (nI k9))]) hC dX8_partOf_28 (by decide) rfl ?_
        refine vv_lload hC 5 dX8_partOf_30 rfl ?_
        refine vv_lstore (lv2 := [(5, .long l7_9), (10, .long (l5_9 - l5_9 / l7_9 * l7_9)), (0, .long p0), (2, .long p2), (4, .int (bI p4)), (7, .long l7_9), (9, .int (nI k9))]) hC dX8_partOf_32 (by decide) rfl ?_
        refine vv_lload hC 1 dX8_partOf_34 rfl ?_
        refine vv_lstore (lv2 := [(7, .long (l5_9 - l5_9 / l7_9 * l7_9)), (5, .long l7_9), (10, .long (l5_9 - l5_9 / l7_9 * l7_9)), (0, .long p0), (2, .long p2), (4, .int (bI p4)), (9, .int (nI k9))]) hC dX8_partOf_36 (by decide) rfl ?_
        refine vv_iinc (lv2 := [(9, .int (nI (k9 + 1))), (7, .long (l5_9 - l5_9 / l7_9 * l7_9)), (5, .long l7_9), (10, .long (l5_9 - l5_9 / l7_9 * l7_9)), (0, .long p0), (2, .long p2), (4, .int (bI p4))]) hC 6 dX8_partOf_38 rfl (nI_add k9 1) (by decide) rfl ?_
        refine vv_goto hC 9 dX8_partOf_41 (by decide) ?_
        refine vv_lv [4, 5, 6, 2, 1, 0] rfl ?_
        exact ih (k9 + 1) l7_9 (l5_9 - l5_9 / l7_9 * l7_9) out (by omega) (ho.trans (by first | (simp only [f_X8_partOf_L9, if_neg c1]; done) | rfl | (simp only [f_X8_partOf_L9, if_neg c1]; rfl))) hk
  refine vv_lv [3, 4, 5, 2, 1, 0] rfl ?_
  refine hL2 100 0 p2 p0 (f_X8_partOf_L9 100 0 p2 p0) (by omega) rfl ?_
  refine vv_lload hC 3 dX8_partOf_44 rfl ?_
  refine vv_lconst (v := 0) hC dX8_partOf_46 (by decide) ?_
  refine vv_lcmp hC dX8_partOf_47 ?_
  refine vv_if_ne hC 53 dX8_partOf_48 (by decide) (fun c3 => ?_) (fun c3 => ?_)
  · have c3 : ¬ ((f_X8_partOf_L9 100 0 p2 p0).1 = 0) := lc_ne c3
    refine vv_iload hC 2 dX8_partOf_53 rfl ?_
    have hJ5 : V g X 12 w0 0 0 69 [(0, .long p0), (2, .long p2), (4, .int (bI p4)), (5, .long ((f_X8_partOf_L9 100 0 p2 p0).1)), (7, .long ((f_X8_partOf_L9 100 0 p2 p0).2))] [.long (if p4 = true then (p0 / (f_X8_partOf_L9 100 0 p2 p0).1) else (p2 / (f_X8_partOf_L9 100 0 p2 p0).1))] := by
      have hf : (f_X8_partOf p0 p2 p4) = (if p4 = true then (p0 / (f_X8_partOf_L9 100 0 p2 p0).1) else (p2 / (f_X8_partOf_L9 100 0 p2 p0).1)) := by first | (simp only [f_X8_partOf, if_neg c3]; done) | rfl | (simp only [f_X8_partOf, if_neg c3]; rfl)
      refine vv_lret hC hR rfl dX8_partOf_69 (by omega) (by omega) ?_
      rw [hf]
      exact ⟨rfl, rfl⟩
    refine vv_if_eq hC 65 dX8_partOf_55 (by decide) (fun c4 => ?_) (fun c4 => ?_)
    · have c4 : ¬ (p4 = true) := bI_f c4
      refine vv_lload_n hC 1 dX8_partOf_65 rfl rfl ?_
      refine vv_lload hC 3 dX8_partOf_66 rfl ?_
      refine vv_ldiv hC dX8_partOf_68 c3 ?_
      have hz := hJ5
      try simp only [if_neg c4] at hz
      first | exact hz | (simp only [if_neg c4]; exact hz)
    · have c4 : p4 = true := bI_t c4
      refine vv_lload_n hC 0 dX8_partOf_58 rfl rfl ?_
      refine vv_lload hC 3 dX8_partOf_59 rfl ?_
      refine vv_ldiv hC dX8_partOf_61 c3 ?_
      refine vv_goto hC 69 dX8_partOf_62 (by decide) ?_
      have hz := hJ5
      try simp only [if_pos c4] at hz
      first | exact hz | (simp only [if_pos c4]; exact hz)
  · have c3 : (f_X8_partOf_L9 100 0 p2 p0).1 = 0 := lc_eq c3
    refine vv_lconst (v := 0) hC dX8_partOf_51 (by decide) ?_
    have hf : (f_X8_partOf p0 p2 p4) = 0 := by first | (simp only [f_X8_partOf, if_pos c3]; done) | rfl | (simp only [f_X8_partOf, if_pos c3]; rfl)
    refine vv_lret hC hR rfl dX8_partOf_52 (by omega) (by omega) ?_
    rw [hf]
    exact ⟨rfl, rfl⟩
def f_X8_likely_x1 (village : TVi) (tales_away : Int32) (tales_unseenWays : Int64) (tales_seenHouses : Int64) (now : TN) (sights_count : Nat) (fits : Nat → Int64) (kinds : Nat → Int32) (moons : Nat → Int32) (places : Nat → Int32) (values : Nat → Int32) (p1 : Int32) (p2 : Bool) : Int64 := (if f_X5_all ((f_X8_tellTales tales_away tales_unseenWays tales_seenHouses village now sights_count fits kinds moons places values).2.2.2.2) = 0 then ((-3) : Int64) else f_X8_partOf (f_X5_allWith ((f_X8_tellTales tales_away tales_unseenWays tales_seenHouses village now sights_count fits kinds moons places values).2.2.2.2) p1) (f_X5_all ((f_X8_tellTales tales_away tales_unseenWays tales_seenHouses village now sights_count fits kinds moons places values).2.2.2.2)) p2)
def f_X8_likely (village : TVi) (tales_people : Nat) (tales_away : Int32) (tales_unseenWays : Int64) (tales_seenHouses : Int64) (now : TN) (sights_count : Nat) (fits : Nat → Int64) (kinds : Nat → Int32) (moons : Nat → Int32) (places : Nat → Int32) (values : Nat → Int32) (p1 : Int32) (p2 : Bool) : Int64 × Nat × Int32 × Int64 × Int64 × (Nat → Int64) := (if f_X8_noPerson village p1 = true then ((-1), tales_people, tales_away, tales_unseenWays, tales_seenHouses, fits) else ((f_X8_likely_x1 village tales_away tales_unseenWays tales_seenHouses now sights_count fits kinds moons places values p1 p2), (f_X8_tellTales tales_away tales_unseenWays tales_seenHouses village now sights_count fits kinds moons places values).1, (f_X8_tellTales tales_away tales_unseenWays tales_seenHouses village now sights_count fits kinds moons places values).2.1, (f_X8_tellTales tales_away tales_unseenWays tales_seenHouses village now sights_count fits kinds moons places values).2.2.1, (f_X8_tellTales tales_away tales_unseenWays tales_seenHouses village now sights_count fits kinds moons places values).2.2.2.1, (f_X8_tellTales tales_away tales_unseenWays tales_seenHouses village now sights_count fits kinds moons places values).2.2.2.2))
set_option maxHeartbeats 4000000 in
set_option maxRecDepth 100000 in
theorem c_X8_likely (g : GT) (w0 : Wd) (A : Nat → Nat) (hA : ∀ i j, i < 60 → j < 60 → A i = A j → i = j) (vi : Nat) (who_keptSlots : Int32) (who_seed : Int64) (village : TVi) (tales_people : Nat) (tales_away : Int32) (tales_unseenWays : Int64) (tales_seenHouses : Int64) (now : TN) (sights_count : Nat) (fits : Nat → Int64) (kinds : Nat → Int32) (moons : Nat → Int32) (places : Nat → Int32) (values : Nat → Int32) (p1 : Int32) (p2 : Bool) (hvh : gVi_houses village ≤ 4) (hvp : gVi_people village ≤ 6) (hsc : sights_count ≤ 6) (h_who : w0 (A 0) = some (.inr (8, cWh A vi (who_keptSlots, who_seed)))) (h_village : w0 vi = some (.inr (7, cVi village))) (h_tales : w0 (A 13) = some (.inr (5, cTa (A 14) (A 15) (A 16) (tales_people, tales_away, tales_unseenWays, tales_seenHouses)))) (h_now : w0 (A 3) = some (.inr (2, cN now))) (h_sights : w0 (A 8) = some (.inr (4, cSi (A 9) (A 10) (A 11) (A 12) sights_count))) (h_fits : w0 (A 14) = some (.inl (g.2.2.1 1, 64, .inr (.inl fits)))) (h_kinds : w0 (A 9) = some (.inl (g.2.2.1 0, 6, .inl kinds))) (h_moons : w0 (A 10) = some (.inl (g.2.2.1 0, 6, .inl moons))) (h_places : w0 (A 11) = some (.inl (g.2.2.1 0, 6, .inl places))) (h_values : w0 (A 12) = some (.inl (g.2.2.1 0, 6, .inl values))) : CT g yX8_likely cX8_likely 5 (some .long) 9 258 0 0 w0 [.ref (A 0), .int p1, .int (bI p2)] (fun r w2 => r = some (.long ((f_X8_likely village tales_people tales_away tales_unseenWays tales_seenHouses now sights_count fits kinds moons places values p1 p2).1)) ∧ w2 (A 13) = some (.inr (5, cTa (A 14) (A 15) (A 16) ((f_X8_likely village tales_people tales_away tales_unseenWays tales_seenHouses now sights_count fits kinds moons places values p1 p2).2.1, (f_X8_likely village tales_people tales_away tales_unseenWays tales_seenHouses now sights_count fits kinds moons places values p1 p2).2.2.1, (f_X8_likely village tales_people tales_away tales_unseenWays tales_seenHouses now sights_count fits kinds moons places values p1 p2).2.2.2.1, (f_X8_likely village tales_people tales_away tales_unseenWays tales_seenHouses now sights_count fits kinds moons places values p1 p2).2.2.2.2.1))) ∧ w2 (A 14) = some (.inl (g.2.2.1 1, 64, .inr (.inl ((f_X8_likely village tales_people tales_away tales_unseenWays tales_seenHouses now sights_count fits kinds moons places values p1 p2).2.2.2.2.2)))) ∧ wE (fun q => q = (A 13) ∨ q = (A 14)) w0 w2) := by
  refine CT.of (own := RX8) (by decide +kernel) rfl (Nat.le_of_ble_eq_true rfl) (fun X hC hR hI => ?_)
  show V g X 5 w0 0 0 0 [(0, .ref (A 0)), (1, .int p1), (2, .int (bI p2))] []
  have hE : wE (fun q => q = (A 13) ∨ q = (A 14)) w0 w0 := wE.refl
  refine vv_aload_n hC 0 dX8_likely_0 rfl rfl ?_
  refine vv_iload_n hC 1 dX8_likely_1 rfl rfl ?_
  refine vv_callV hC dX8_likely_2 md_X8_noPerson lk_m_X8_134 lk_i_X8_noPerson lk_s_X8_noPerson h_who rfl (As := [.int p1]) (rest := []) (c_X8_noPerson g w0 A hA vi who_keptSlots who_seed village p1 h_who h_village) rfl rfl (Nat.le_of_ble_eq_true rfl) ⟨by decide, by decide, by decide, by decide⟩ (fun r w9 hq => ?_)
  obtain ⟨rfl, rfl⟩ := hq
  show V g X 5 w0 0 0 5 [(0, .ref (A 0)), (1, .int p1), (2, .int (bI p2))] [.int (bI (f_X8_noPerson village p1))]
  refine vv_if_eq hC 12 dX8_likely_5 (by decide) (fun c1 => ?_) (fun c1 => ?_)
  · have c1 : ¬ (f_X8_noPerson village p1 = true) := bI_f c1
    refine vv_aload_n hC 0 dX8_likely_12 rfl rfl ?_
    refine vv_callV hC dX8_likely_13 md_X8_tellTales lk_m_X8_220 lk_i_X8_tellTales lk_s_X8_tellTales h_who rfl (As := []) (rest := []) (c_X8_tellTales g w0 A hA vi who_keptSlots who_seed tales_people tales_away tales_unseenWays tales_seenHouses village now sights_count fits kinds moons places values (by omega) (by omega) (by omega) h_who h_tales h_village h_now h_sights h_fits h_kinds h_moons h_places h_values) rfl rfl (Nat.le_of_ble_eq_true rfl) ⟨by decide, by decide, by decide, by decide⟩ (fun r w9 hq => ?_)
    obtain ⟨rfl, t1, t2, hs⟩ := hq
    obtain ⟨w2, rfl⟩ : ∃ z, z = w9 := ⟨_, rfl⟩
    have h_who := hs _ _ (fun z => z.elim (fw_oo h_who h_tales (by decide)) (fw_oa h_who h_fits)) h_who
    have h_village := hs _ _ (fun z => z.elim (fw_oo h_village h_tales (by decide)) (fw_oa h_village h_fits)) h_village
    have h_now := hs _ _ (fun z => z.elim (fw_oo h_now h_tales (by decide)) (fw_oa h_now h_fits)) h_now
    have h_sights := hs _ _ (fun z => z.elim (fw_oo h_sights h_tales (by decide)) (fw_oa h_sights h_fits)) h_sights
    have h_kinds := hs _ _ (fun z => z.elim (fw_ao h_kinds h_tales) (fw_inj hA (by decide) (by decide) (by decide))) h_kinds
    have h_moons := hs _ _ (fun z => z.elim (fw_ao h_moons h_tales) (fw_inj hA (by decide) (by decide) (by decide))) h_moons
    have h_places := hs _ _ (fun z => z.elim (fw_ao h_places h_tales) (fw_inj hA (by decide) (by decide) (by decide))) h_places
    have h_values := hs _ _ (fun z => z.elim (fw_ao h_values h_tales) (fw_inj hA (by decide) (by decide) (by decide))) h_values
    have h_tales := t1
    have h_fits := t2
    have hE := hE.trans (hs.mono (fun _ z => z.elim (fun z => (Or.inl z)) (fun z => (Or.inr z))))
    show V g X 5 w2 0 0 16 [(0, .ref (A 0)), (1, .int p1), (2, .int (bI p2))] []
    refine vv_aload_n hC 0 dX8_likely_16 rfl rfl ?_
    refine vv_get (v := .ref (A 13)) hC fl_X8_58 dX8_likely_17 h_who rfl ?_
    refine vv_callV hC dX8_likely_20 md_X5_all lk_m_X8_223 lk_i_X5_all lk_s_X5_all h_tales rfl (As := []) (rest := []) (c_X5_all g w2 (A 13) (A 14) (A 15) (A 16) ((f_X8_tellTales tales_away tales_unseenWays tales_seenHouses village now sights_count fits kinds moons places values).1) ((f_X8_tellTales tales_away tales_unseenWays tales_seenHouses village now sights_count fits kinds moons places values).2.1) ((f_X8_tellTales tales_away tales_unseenWays tales_seenHouses village now sights_count fits kinds moons places values).2.2.1) ((f_X8_tellTales tales_away tales_unseenWays tales_seenHouses village now sights_count fits kinds moons places values).2.2.2.1) ((f_X8_tellTales tales_away tales_unseenWays tales_seenHouses village now sights_count fits kinds moons places values).2.2.2.2) h_tales h_fits) rfl rfl (Nat.le_of_ble_eq_true rfl) ⟨by decide, by decide, by decide, by decide⟩ (fun r w9 hq => ?_)
    obtain ⟨rfl, rfl⟩ := hq
    show V g X 5 w2 0 0 23 [(0, .ref (A 0)), (1, .int p1), (2, .int (bI p2))] [.long (f_X5_all ((f_X8_tellTales tales_away tales_unseenWays tales_seenHouses village now sights_count fits kinds moons places values).2.2.2.2))]
    refine vv_lstore_n (lv2 := [(3, .long (f_X5_all ((f_X8_tellTales tales_away tales_unseenWays tales_seenHouses village now sights_count fits kinds moons places values).2.2.2.2))), (0, .ref (A 0)), (1, .int p1), (2, .int (bI p2))]) hC dX8_likely_23 rfl (by decide) rfl ?_
    refine vv_lload_n hC 0 dX8_likely_24 rfl rfl ?_
    refine vv_lconst (v := 0) hC dX8_likely_25 (by decide) ?_
    refine vv_lcmp hC dX8_likely_26 ?_
    have hJ4 : V g X 5 w2 0 0 49 [(0, .ref (A 0)), (1, .int p1), (2, .int (bI p2)), (3, .long (f_X5_all ((f_X8_tellTales tales_away tales_unseenWays tales_seenHouses village now sights_count fits kinds moons places values).2.2.2.2)))] [.long (f_X8_likely_x1 village tales_away tales_unseenWays tales_seenHouses now sights_count fits kinds moons places values p1 p2)] := by
      have hf : (f_X8_likely village tales_people tales_away tales_unseenWays tales_seenHouses now sights_count fits kinds moons places values p1 p2) = ((f_X8_likely_x1 village tales_away tales_unseenWays tales_seenHouses now sights_count fits kinds moons places values p1 p2), (f_X8_tellTales tales_away tales_unseenWays tales_seenHouses village now sights_count fits kinds moons places values).1, (f_X8_tellTales tales_away tales_unseenWays tales_seenHouses village now sights_count fits kinds moons places values).2.1, (f_X8_tellTales tales_away tales_unseenWays tales_seenHouses village now sights_count fits kinds moons places values).2.2.1, (f_X8_tellTales tales_away tales_unseenWays tales_seenHouses village now sights_count fits kinds moons places values).2.2.2.1, (f_X8_tellTales tales_away tales_unseenWays tales_seenHouses village now sights_count fits kinds moons places values).2.2.2.2) := by first | (simp only [f_X8_likely, if_neg c1]; done) | rfl | (simp only [f_X8_likely, if_neg c1]; rfl)
      refine vv_lret hC hR rfl dX8_likely_49 (by omega) (by omega) ?_
      rw [hf]
      try dsimp only
      exact ⟨rfl, h_tales, h_fits, hE⟩
    refine vv_if_ne hC 36 dX8_likely_27 (by decide) (fun c3 => ?_) (fun c3 => ?_)
    · have c3 : ¬ (f_X5_all ((f_X8_tellTales tales_away tales_unseenWays tales_seenHouses village now sights_count fits kinds moons places values).2.2.2.2) = 0) := lc_ne c3
      refine vv_aload_n hC 1 dX8_likely_36 rfl rfl ?_
      refine vv_get (v := .ref (A 13)) hC fl_X8_58 dX8_likely_37 h_who rfl ?_
      refine vv_iload_n hC 2 dX8_likely_40 rfl rfl ?_
      refine vv_callV hC dX8_likely_41 md_X5_allWith lk_m_X8_247 lk_i_X5_allWith lk_s_X5_allWith h_tales rfl (As := [.int p1]) (rest := []) (c_X5_allWith g w2 (A 13) (A 14) (A 15) (A 16) ((f_X8_tellTales tales_away tales_unseenWays tales_seenHouses village now sights_count fits kinds moons places values).1) ((f_X8_tellTales tales_away tales_unseenWays tales_seenHouses village now sights_count fits kinds moons places values).2.1) ((f_X8_tellTales tales_away tales_unseenWays tales_seenHouses village now sights_count fits kinds moons places values).2.2.1) ((f_X8_tellTales tales_away tales_unseenWays tales_seenHouses village now sights_count fits kinds moons places values).2.2.2.1) ((f_X8_tellTales tales_away tales_unseenWays tales_seenHouses village now sights_count fits kinds moons places values).2.2.2.2) p1 h_tales h_fits) rfl rfl (Nat.le_of_ble_eq_true rfl) ⟨by decide, by decide, by decide, by decide⟩ (fun r w9 hq => ?_)
      obtain ⟨rfl, rfl⟩ := hq
      show V g X 5 w2 0 0 44 [(3, .long (f_X5_all ((f_X8_tellTales tales_away tales_unseenWays tales_seenHouses village now sights_count fits kinds moons places values).2.2.2.2))), (0, .ref (A 0)), (1, .int p1), (2, .int (bI p2))] [.long (f_X5_allWith ((f_X8_tellTales tales_away tales_unseenWays tales_seenHouses village now sights_count fits kinds moons places values).2.2.2.2) p1)]
      refine vv_lload_n hC 0 dX8_likely_44 rfl rfl ?_
      refine vv_iload_n hC 3 dX8_likely_45 rfl rfl ?_
      refine vv_callS hC dX8_likely_46 md_X8_partOf lk_m_X8_251 lk_t_X8_partOf (As := [.long (f_X5_allWith ((f_X8_tellTales tales_away tales_unseenWays tales_seenHouses village now sights_count fits kinds moons places values).2.2.2.2) p1), .long (f_X5_all ((f_X8_tellTales tales_away tales_unseenWays tales_seenHouses village now sights_count fits kinds moons places values).2.2.2.2)), .int (bI p2)]) (rest := []) (c_X8_partOf g w2 (f_X5_allWith ((f_X8_tellTales tales_away tales_unseenWays tales_seenHouses village now sights_count fits kinds moons places values).2.2.2.2) p1) (f_X5_all ((f_X8_tellTales tales_away tales_unseenWays tales_seenHouses village now sights_count fits kinds moons places values).2.2.2.2)) p2) rfl rfl (Nat.le_of_ble_eq_true rfl) ⟨by decide, by decide, by decide, by decide⟩ (fun r w9 hq => ?_)
      obtain ⟨rfl, rfl⟩ := hq
      show V g X 5 w2 0 0 49 [(3, .long (f_X5_all ((f_X8_tellTales tales_away tales_unseenWays tales_seenHouses village now sights_count fits kinds moons places values).2.2.2.2))), (0, .ref (A 0)), (1, .int p1), (2, .int (bI p2))] [.long (f_X8_partOf (f_X5_allWith ((f_X8_tellTales tales_away tales_unseenWays tales_seenHouses village now sights_count fits kinds moons places values).2.2.2.2) p1) (f_X5_all ((f_X8_tellTales tales_away tales_unseenWays tales_seenHouses village now sights_count fits kinds moons places values).2.2.2.2)) p2)]
      refine vv_lv [1, 2, 3, 0] rfl ?_
      have hz := hJ4
      try simp only [f_X8_likely_x1, if_neg c3] at hz
      first | exact hz | (simp only [f_X8_likely_x1, if_neg c3]; exact hz)
    · have c3 : f_X5_all ((f_X8_tellTales tales_away tales_unseenWays tales_seenHouses village now sights_count fits kinds moons places values).2.2.2.2) = 0 := lc_eq c3
      refine vv_ldc2 (v := (-3)) hC lk_l_X8_245 dX8_likely_30 ?_
      refine vv_goto hC 49 dX8_likely_33 (by decide) ?_
      refine vv_lv [1, 2, 3, 0] rfl ?_
      have hz := hJ4
      try simp only [f_X8_likely_x1, if_pos c3] at hz
      first | exact hz | (simp only [f_X8_likely_x1, if_pos c3]; exact hz)
  · have c1 : f_X8_noPerson village p1 = true := bI_t c1
    refine vv_ldc2 (v := (-1)) hC lk_l_X8_243 dX8_likely_8 ?_
    have hf : (f_X8_likely village tales_people tales_away tales_unseenWays tales_seenHouses now sights_count fits kinds moons places values p1 p2) = ((-1), tales_people, tales_away, tales_unseenWays, tales_seenHouses, fits) := by first | (simp only [f_X8_likely, if_pos c1]; done) | rfl | (simp only [f_X8_likely, if_pos c1]; rfl)
    refine vv_lret hC hR rfl dX8_likely_11 (by omega) (by omega) ?_
    rw [hf]
    try dsimp only
    exact ⟨rfl, h_tales, h_fits, hE⟩
def f_X8_toTest_x1 (tales_away : Int32) (tales_unseenWays : Int64) (tales_seenHouses : Int64) (village : TVi) (now : TN) (sights_count : Nat) (fits : Nat → Int64) (kinds : Nat → Int32) (moons : Nat → Int32) (places : Nat → Int32) (values : Nat → Int32) : Int32 := (if f_X5_setCount ((f_X8_tellTales tales_away tales_unseenWays tales_seenHouses village now sights_count fits kinds moons places values).2.2.2.2) = 0 then (-9 : Int32) else f_X5_bestSpoon ((f_X8_tellTales tales_away tales_unseenWays tales_seenHouses village now sights_count fits kinds moons places values).1) ((f_X8_tellTales tales_away tales_unseenWays tales_seenHouses village now sights_count fits kinds moons places values).2.2.2.2) (f_X2_there now village))
def f_X8_toTest (tales_away : Int32) (tales_unseenWays : Int64) (tales_seenHouses : Int64) (village : TVi) (now : TN) (sights_count : Nat) (fits : Nat → Int64) (kinds : Nat → Int32) (moons : Nat → Int32) (places : Nat → Int32) (values : Nat → Int32) : Int32 × Nat × Int32 × Int64 × Int64 × (Nat → Int64) := ((f_X8_toTest_x1 tales_away tales_unseenWays tales_seenHouses village now sights_count fits kinds moons places values), (f_X8_tellTales tales_away tales_unseenWays tales_seenHouses village now sights_count fits kinds moons places values).1, (f_X8_tellTales tales_away tales_unseenWays tales_seenHouses village now sights_count fits kinds moons places values).2.1, (f_X8_tellTales tales_away tales_unseenWays tales_seenHouses village now sights_count fits kinds moons places values).2.2.1, (f_X8_tellTales tales_away tales_unseenWays tales_seenHouses village now sights_count fits kinds moons places values).2.2.2.1, (f_X8_tellTales tales_away tales_unseenWays tales_seenHouses village now sights_count fits kinds moons places values).2.2.2.2)
set_option maxHeartbeats 4000000 in
set_option maxRecDepth 100000 in
theorem c_X8_toTest (g : GT) (w0 : Wd) (A : Nat → Nat) (hA : ∀ i j, i < 60 → j < 60 → A i = A j → i = j) (vi : Nat) (who_keptSlots : Int32) (who_seed : Int64) (tales_people : Nat) (tales_away : Int32) (tales_unseenWays : Int64) (tales_seenHouses : Int64) (village : TVi) (now : TN) (sights_count : Nat) (fits : Nat → Int64) (kinds : Nat → Int32) (moons : Nat → Int32) (places : Nat → Int32) (values : Nat → Int32) (hvh : gVi_houses village ≤ 4) (hvp : gVi_people village ≤ 6) (hsc : sights_count ≤ 6) (h_who : w0 (A 0) = some (.inr (8, cWh A vi (who_keptSlots, who_seed)))) (h_tales : w0 (A 13) = some (.inr (5, cTa (A 14) (A 15) (A 16) (tales_people, tales_away, tales_unseenWays, tales_seenHouses)))) (h_village : w0 vi = some (.inr (7, cVi village))) (h_now : w0 (A 3) = some (.inr (2, cN now))) (h_sights : w0 (A 8) = some (.inr (4, cSi (A 9) (A 10) (A 11) (A 12) sights_count))) (h_fits : w0 (A 14) = some (.inl (g.2.2.1 1, 64, .inr (.inl fits)))) (h_kinds : w0 (A 9) = some (.inl (g.2.2.1 0, 6, .inl kinds))) (h_moons : w0 (A 10) = some (.inl (g.2.2.1 0, 6, .inl moons))) (h_places : w0 (A 11) = some (.inl (g.2.2.1 0, 6, .inl places))) (h_values : w0 (A 12) = some (.inl (g.2.2.1 0, 6, .inl values))) : CT g yX8_toTest cX8_toTest 1 (some .int) 9 258 0 0 w0 [.ref (A 0)] (fun r w2 => r = some (.int ((f_X8_toTest tales_away tales_unseenWays tales_seenHouses village now sights_count fits kinds moons places values).1)) ∧ w2 (A 13) = some (.inr (5, cTa (A 14) (A 15) (A 16) ((f_X8_toTest tales_away tales_unseenWays tales_seenHouses village now sights_count fits kinds moons places values).2.1, (f_X8_toTest tales_away tales_unseenWays tales_seenHouses village now sights_count fits kinds moons places values).2.2.1, (f_X8_toTest tales_away tales_unseenWays tales_seenHouses village now sights_count fits kinds moons places values).2.2.2.1, (f_X8_toTest tales_away tales_unseenWays tales_seenHouses village now sights_count fits kinds moons places values).2.2.2.2.1))) ∧ w2 (A 14) = some (.inl (g.2.2.1 1, 64, .inr (.inl ((f_X8_toTest tales_away tales_unseenWays tales_seenHouses village now sights_count fits kinds moons places values).2.2.2.2.2)))) ∧ wE (fun q => q = (A 13) ∨ q = (A 14)) w0 w2) := by
  refine CT.of (own := RX8) (by decide +kernel) rfl (Nat.le_of_ble_eq_true rfl) (fun X hC hR hI => ?_)
  show V g X 1 w0 0 0 0 [(0, .ref (A 0))] []
  have hE : wE (fun q => q = (A 13) ∨ q = (A 14)) w0 w0 := wE.refl
  refine vv_aload_n hC 0 dX8_toTest_0 rfl rfl ?_
  refine vv_callV hC dX8_toTest_1 md_X8_tellTales lk_m_X8_220 lk_i_X8_tellTales lk_s_X8_tellTales h_who rfl (As := []) (rest := []) (c_X8_tellTales g w0 A hA vi who_keptSlots who_seed tales_people tales_away tales_unseenWays tales_seenHouses village now sights_count fits kinds moons places values (by omega) (by omega) (by omega) h_who h_tales h_village h_now h_sights h_fits h_kinds h_moons h_places h_values) rfl rfl (Nat.le_of_ble_eq_true rfl) ⟨by decide, by decide, by decide, by decide⟩ (fun r w9 hq => ?_)
  obtain ⟨rfl, t1, t2, hs⟩ := hq
  obtain ⟨w1, rfl⟩ : ∃ z, z = w9 := ⟨_, rfl⟩
  have h_who := hs _ _ (fun z => z.elim (fw_oo h_who h_tales (by decide)) (fw_oa h_who h_fits)) h_who
  have h_village := hs _ _ (fun z => z.elim (fw_oo h_village h_tales (by decide)) (fw_oa h_village h_fits)) h_village
  have h_now := hs _ _ (fun z => z.elim (fw_oo h_now h_tales (by decide)) (fw_oa h_now h_fits)) h_now
  have h_sights := hs _ _ (fun z => z.elim (fw_oo h_sights h_tales (by decide)) (fw_oa h_sights h_fits)) h_sights
  have h_kinds := hs _ _ (fun z => z.elim (fw_ao h_kinds h_tales) (fw_inj hA (by decide) (by decide) (by decide))) h_kinds
  have h_moons := hs _ _ (fun z => z.elim (fw_ao h_moons h_tales) (fw_inj hA (by decide) (by decide) (by decide))) h_moons
  have h_places := hs _ _ (fun z => z.elim (fw_ao h_places h_tales) (fw_inj hA (by decide) (by decide) (by decide))) h_places
  have h_values := hs _ _ (fun z => z.elim (fw_ao h_values h_tales) (fw_inj hA (by decide) (by decide) (by decide))) h_values
  have h_tales := t1
  have h_fits := t2
  have hE := hE.trans (hs.mono (fun _ z => z.elim (fun z => (Or.inl z)) (fun z => (Or.inr z))))
  show V g X 1 w1 0 0 4 [(0, .ref (A 0))] []
  refine vv_aload_n hC 0 dX8_toTest_4 rfl rfl ?_
  refine vv_get (v := .ref (A 13)) hC fl_X8_58 dX8_toTest_5 h_who rfl ?_
  refine vv_callV hC dX8_toTest_8 md_X5_setCount lk_m_X8_227 lk_i_X5_setCount lk_s_X5_setCount h_tales rfl (As := []) (rest := []) (c_X5_setCount g w1 (A 13) (A 14) (A 15) (A 16) ((f_X8_tellTales tales_away tales_unseenWays tales_seenHouses village now sights_count fits kinds moons places values).1) ((f_X8_tellTales tales_away tales_unseenWays tales_seenHouses village now sights_count fits kinds moons places values).2.1) ((f_X8_tellTales tales_away tales_unseenWays tales_seenHouses village now sights_count fits kinds moons places values).2.2.1) ((f_X8_tellTales tales_away tales_unseenWays tales_seenHouses village now sights_count fits kinds moons places values).2.2.2.1) ((f_X8_tellTales tales_away tales_unseenWays tales_seenHouses village now sights_count fits kinds moons places values).2.2.2.2) h_tales h_fits) rfl rfl (Nat.le_of_ble_eq_true rfl) ⟨by decide, by decide, by decide, by decide⟩ (fun r w9 hq => ?_)
  obtain ⟨rfl, rfl⟩ := hq
  show V g X 1 w1 0 0 11 [(0, .ref (A 0))] [.int (f_X5_setCount ((f_X8_tellTales tales_away tales_unseenWays tales_seenHouses village now sights_count fits kinds moons places values).2.2.2.2))]
  have hJ3 : V g X 1 w1 0 0 37 [(0, .ref (A 0))] [.int (f_X8_toTest_x1 tales_away tales_unseenWays tales_seenHouses village now sights_count fits kinds moons places values)] := by
    have hf : (f_X8_toTest tales_away tales_unseenWays tales_seenHouses village now sights_count fits kinds moons places values) = ((f_X8_toTest_x1 tales_away tales_unseenWays tales_seenHouses village now sights_count fits kinds moons places values), (f_X8_tellTales tales_away tales_unseenWays tales_seenHouses village now sights_count fits kinds moons places values).1, (f_X8_tellTales tales_away tales_unseenWays tales_seenHouses village now sights_count fits kinds moons places values).2.1, (f_X8_tellTales tales_away tales_unseenWays tales_seenHouses village now sights_count fits kinds moons places values).2.2.1, (f_X8_tellTales tales_away tales_unseenWays tales_seenHouses village now sights_count fits kinds moons places values).2.2.2.1, (f_X8_tellTales tales_away tales_unseenWays tales_seenHouses village now sights_count fits kinds moons places values).2.2.2.2) := by first | (simp only [f_X8_toTest]; done) | rfl | (simp only [f_X8_toTest]; rfl)
    refine vv_iret hC hR rfl dX8_toTest_37 (by omega) (by omega) ?_
    rw [hf]
    try dsimp only
    exact ⟨rfl, h_tales, h_fits, hE⟩
  refine vv_if_ne hC 19 dX8_toTest_11 (by decide) (fun c2 => ?_) (fun c2 => ?_)
  · have c2 : ¬ (f_X5_setCount ((f_X8_tellTales tales_away tales_unseenWays tales_seenHouses village now sights_count fits kinds moons places values).2.2.2.2) = 0) := c2
    refine vv_aload_n hC 0 dX8_toTest_19 rfl rfl ?_
    refine vv_get (v := .ref (A 13)) hC fl_X8_58 dX8_toTest_20 h_who rfl ?_
    refine vv_aload_n hC 0 dX8_toTest_23 rfl rfl ?_
    refine vv_get (v := .ref (A 3)) hC fl_X8_26 dX8_toTest_24 h_who rfl ?_
    refine vv_aload_n hC 0 dX8_toTest_27 rfl rfl ?_
    refine vv_get (v := .ref vi) hC fl_X8_19 dX8_toTest_28 h_who rfl ?_
    refine vv_callV hC dX8_toTest_31 md_X2_there lk_m_X8_236 lk_i_X2_there lk_s_X2_there h_now rfl (As := [.ref vi]) (rest := [.ref (A 13)]) (c_X2_there g w1 (A 3) vi now village h_now h_village) rfl rfl (Nat.le_of_ble_eq_true rfl) ⟨by decide, by decide, by decide, by decide⟩ (fun r w9 hq => ?_)
    obtain ⟨rfl, rfl⟩ := hq
    show V g X 1 w1 0 0 34 [(0, .ref (A 0))] [.int (f_X2_there now village), .ref (A 13)]
    refine vv_callV hC dX8_toTest_34 md_X5_bestSpoon lk_m_X8_255 lk_i_X5_bestSpoon lk_s_X5_bestSpoon h_tales rfl (As := [.int (f_X2_there now village)]) (rest := []) (c_X5_bestSpoon g w1 (A 13) (A 14) (A 15) (A 16) ((f_X8_tellTales tales_away tales_unseenWays tales_seenHouses village now sights_count fits kinds moons places values).1) ((f_X8_tellTales tales_away tales_unseenWays tales_seenHouses village now sights_count fits kinds moons places values).2.1) ((f_X8_tellTales tales_away tales_unseenWays tales_seenHouses village now sights_count fits kinds moons places values).2.2.1) ((f_X8_tellTales tales_away tales_unseenWays tales_seenHouses village now sights_count fits kinds moons places values).2.2.2.1) ((f_X8_tellTales tales_away tales_unseenWays tales_seenHouses village now sights_count fits kinds moons places values).2.2.2.2) (f_X2_there now village) (show gVi_people village ≤ 6 from hvp) h_tales h_fits) rfl rfl (Nat.le_of_ble_eq_true rfl) ⟨by decide, by decide, by decide, by decide⟩ (fun r w9 hq => ?_)
    obtain ⟨rfl, rfl⟩ := hq
    show V g X 1 w1 0 0 37 [(0, .ref (A 0))] [.int (f_X5_bestSpoon ((f_X8_tellTales tales_away tales_unseenWays tales_seenHouses village now sights_count fits kinds moons places values).1) ((f_X8_tellTales tales_away tales_unseenWays tales_seenHouses village now sights_count fits kinds moons places values).2.2.2.2) (f_X2_there now village))]
    have hz := hJ3
    try simp only [f_X8_toTest_x1, if_neg c2] at hz
    first | exact hz | (simp only [f_X8_toTest_x1, if_neg c2]; exact hz)
  · have c2 : f_X5_setCount ((f_X8_tellTales tales_away tales_unseenWays tales_seenHouses village now sights_count fits kinds moons places values).2.2.2.2) = 0 := c2
    refine vv_bipush (v := (-9)) hC dX8_toTest_14 (by decide) ?_
    refine vv_goto hC 37 dX8_toTest_16 (by decide) ?_
    have hz := hJ3
    try simp only [f_X8_toTest_x1, if_pos c2] at hz
    first | exact hz | (simp only [f_X8_toTest_x1, if_pos c2]; exact hz)
def f_X8_tests_x1 (tales_away : Int32) (tales_unseenWays : Int64) (tales_seenHouses : Int64) (village : TVi) (now : TN) (sights_count : Nat) (fits : Nat → Int64) (kinds : Nat → Int32) (moons : Nat → Int32) (places : Nat → Int32) (values : Nat → Int32) (left : Nat → Int32) (needs : Nat → Int32) : Int32 := (if f_X5_setCount ((f_X8_tellTales tales_away tales_unseenWays tales_seenHouses village now sights_count fits kinds moons places values).2.2.2.2) = 0 then (-9 : Int32) else (f_X5_spoonsAtWorst left needs ((f_X8_tellTales tales_away tales_unseenWays tales_seenHouses village now sights_count fits kinds moons places values).2.2.2.2)).1)
def f_X8_tests_x2 (tales_away : Int32) (tales_unseenWays : Int64) (tales_seenHouses : Int64) (village : TVi) (now : TN) (sights_count : Nat) (fits : Nat → Int64) (kinds : Nat → Int32) (moons : Nat → Int32) (places : Nat → Int32) (values : Nat → Int32) (left : Nat → Int32) (needs : Nat → Int32) : Nat → Int32 := (if f_X5_setCount ((f_X8_tellTales tales_away tales_unseenWays tales_seenHouses village now sights_count fits kinds moons places values).2.2.2.2) = 0 then left else (f_X5_spoonsAtWorst left needs ((f_X8_tellTales tales_away tales_unseenWays tales_seenHouses village now sights_count fits kinds moons places values).2.2.2.2)).2.1)
def f_X8_tests_x3 (tales_away : Int32) (tales_unseenWays : Int64) (tales_seenHouses : Int64) (village : TVi) (now : TN) (sights_count : Nat) (fits : Nat → Int64) (kinds : Nat → Int32) (moons : Nat → Int32) (places : Nat → Int32) (values : Nat → Int32) (left : Nat → Int32) (needs : Nat → Int32) : Nat → Int32 := (if f_X5_setCount ((f_X8_tellTales tales_away tales_unseenWays tales_seenHouses village now sights_count fits kinds moons places values).2.2.2.2) = 0 then needs else (f_X5_spoonsAtWorst left needs ((f_X8_tellTales tales_away tales_unseenWays tales_seenHouses village now sights_count fits kinds moons places values).2.2.2.2)).2.2)
def f_X8_tests (tales_away : Int32) (tales_unseenWays : Int64) (tales_seenHouses : Int64) (village : TVi) (now : TN) (sights_count : Nat) (fits : Nat → Int64) (kinds : Nat → Int32) (moons : Nat → Int32) (places : Nat → Int32) (values : Nat → Int32) (left : Nat → Int32) (needs : Nat → Int32) : Int32 × Nat × Int32 × Int64 × Int64 × (Nat → Int64) × (Nat → Int32) × (Nat → Int32) := ((f_X8_tests_x1 tales_away tales_unseenWays tales_seenHouses village now sights_count fits kinds moons places values left needs), (f_X8_tellTales tales_away tales_unseenWays tales_seenHouses village now sights_count fits kinds moons places values).1, (f_X8_tellTales tales_away tales_unseenWays tales_seenHouses village now sights_count fits kinds moons places values).2.1, (f_X8_tellTales tales_away tales_unseenWays tales_seenHouses village now sights_count fits kinds moons places values).2.2.1, (f_X8_tellTales tales_away tales_unseenWays tales_seenHouses village now sights_count fits kinds moons places values).2.2.2.1, (f_X8_tellTales tales_away tales_unseenWays tales_seenHouses village now sights_count fits kinds moons places values).2.2.2.2, (f_X8_tests_x2 tales_away tales_unseenWays tales_seenHouses village now sights_count fits kinds moons places values left needs), (f_X8_tests_x3 tales_away tales_unseenWays tales_seenHouses village now sights_count fits kinds moons places values left needs))
set_option maxHeartbeats 4000000 in
set_option maxRecDepth 100000 in
theorem c_X8_tests (g : GT) (w0 : Wd) (A : Nat → Nat) (hA : ∀ i j, i < 60 → j < 60 → A i = A j → i = j) (vi : Nat) (who_keptSlots : Int32) (who_seed : Int64) (tales_people : Nat) (tales_away : Int32) (tales_unseenWays : Int64) (tales_seenHouses : Int64) (village : TVi) (now : TN) (sights_count : Nat) (fits : Nat → Int64) (kinds : Nat → Int32) (moons : Nat → Int32) (places : Nat → Int32) (values : Nat → Int32) (left : Nat → Int32) (needs : Nat → Int32) (hvh : gVi_houses village ≤ 4) (hvp : gVi_people village ≤ 6) (hsc : sights_count ≤ 6) (h_who : w0 (A 0) = some (.inr (8, cWh A vi (who_keptSlots, who_seed)))) (h_tales : w0 (A 13) = some (.inr (5, cTa (A 14) (A 15) (A 16) (tales_people, tales_away, tales_unseenWays, tales_seenHouses)))) (h_village : w0 vi = some (.inr (7, cVi village))) (h_now : w0 (A 3) = some (.inr (2, cN now))) (h_sights : w0 (A 8) = some (.inr (4, cSi (A 9) (A 10) (A 11) (A 12) sights_count))) (h_fits : w0 (A 14) = some (.inl (g.2.2.1 1, 64, .inr (.inl fits)))) (h_kinds : w0 (A 9) = some (.inl (g.2.2.1 0, 6, .inl kinds))) (h_moons : w0 (A 10) = some (.inl (g.2.2.1 0, 6, .inl moons))) (h_places : w0 (A 11) = some (.inl (g.2.2.1 0, 6, .inl places))) (h_values : w0 (A 12) = some (.inl (g.2.2.1 0, 6, .inl values))) (h_left : w0 (A 15) = some (.inl (g.2.2.1 0, 729, .inl left))) (h_needs : w0 (A 16) = some (.inl (g.2.2.1 0, 729, .inl needs))) : CT g yX8_tests cX8_tests 1 (some .int) 9 258 0 0 w0 [.ref (A 0)] (fun r w2 => r = some (.int ((f_X8_tests tales_away tales_unseenWays tales_seenHouses village now sights_count fits kinds moons places values left needs).1)) ∧ w2 (A 13) = some (.inr (5, cTa (A 14) (A 15) (A 16) ((f_X8_tests tales_away tales_unseenWays tales_seenHouses village now sights_count fits kinds moons places values left needs).2.1, (f_X8_tests tales_away tales_unseenWays tales_seenHouses village now sights_count fits kinds moons places values left needs).2.2.1, (f_X8_tests tales_away tales_unseenWays tales_seenHouses village now sights_count fits kinds moons places values left needs).2.2.2.1, (f_X8_tests tales_away tales_unseenWays tales_seenHouses village now sights_count fits kinds moons places values left needs).2.2.2.2.1))) ∧ w2 (A 14) = some (.inl (g.2.2.1 1, 64, .inr (.inl ((f_X8_tests tales_away tales_unseenWays tales_seenHouses village now sights_count fits kinds moons places values left needs).2.2.2.2.2.1)))) ∧ w2 (A 15) = some (.inl (g.2.2.1 0, 729, .inl ((f_X8_tests tales_away tales_unseenWays tales_seenHouses village now sights_count fits kinds moons places values left needs).2.2.2.2.2.2.1))) ∧ w2 (A 16) = some (.inl (g.2.2.1 0, 729, .inl ((f_X8_tests tales_away tales_unseenWays tales_seenHouses village now sights_count fits kinds moons places values left needs).2.2.2.2.2.2.2))) ∧ wE (fun q => q = (A 13) ∨ q = (A 14) ∨ q = (A 15) ∨ q = (A 16)) w0 w2) := by
  refine CT.of (own := RX8) (by decide +kernel) rfl (Nat.le_of_ble_eq_true rfl) (fun X hC hR hI => ?_)
  show V g X 1 w0 0 0 0 [(0, .ref (A 0))] []
  have hE : wE (fun q => q = (A 13) ∨ q = (A 14) ∨ q = (A 15) ∨ q = (A 16)) w0 w0 := wE.refl
  refine vv_aload_n hC 0 dX8_tests_0 rfl rfl ?_
  refine vv_callV hC dX8_tests_1 md_X8_tellTales lk_m_X8_220 lk_i_X8_tellTales lk_s_X8_tellTales h_who rfl (As := []) (rest := []) (c_X8_tellTales g w0 A hA vi who_keptSlots who_seed tales_people tales_away tales_unseenWays tales_seenHouses village now sights_count fits kinds moons places values (by omega) (by omega) (by omega) h_who h_tales h_village h_now h_sights h_fits h_kinds h_moons h_places h_values) rfl rfl (Nat.le_of_ble_eq_true rfl) ⟨by decide, by decide, by decide, by decide⟩ (fun r w9 hq => ?_)
  obtain ⟨rfl, t1, t2, hs⟩ := hq
  obtain ⟨w1, rfl⟩ : ∃ z, z = w9 := ⟨_, rfl⟩
  have h_who := hs _ _ (fun z => z.elim (fw_oo h_who h_tales (by decide)) (fw_oa h_who h_fits)) h_who
  have h_village := hs _ _ (fun z => z.elim (fw_oo h_village h_tales (by decide)) (fw_oa h_village h_fits)) h_village
  have h_now := hs _ _ (fun z => z.elim (fw_oo h_now h_tales (by decide)) (fw_oa h_now h_fits)) h_now
  have h_sights := hs _ _ (fun z => z.elim (fw_oo h_sights h_tales (by decide)) (fw_oa h_sights h_fits)) h_sights
  have h_kinds := hs _ _ (fun z => z.elim (fw_ao h_kinds h_tales) (fw_inj hA (by decide) (by decide) (by decide))) h_kinds
  have h_moons := hs _ _ (fun z => z.elim (fw_ao h_moons h_tales) (fw_inj hA (by decide) (by decide) (by decide))) h_moons
  have h_places := hs _ _ (fun z => z.elim (fw_ao h_places h_tales) (fw_inj hA (by decide) (by decide) (by decide))) h_places
  have h_values := hs _ _ (fun z => z.elim (fw_ao h_values h_tales) (fw_inj hA (by decide) (by decide) (by decide))) h_values
  have h_left := hs _ _ (fun z => z.elim (fw_ao h_left h_tales) (fw_inj hA (by decide) (by decide) (by decide))) h_left
  have h_needs := hs _ _ (fun z => z.elim (fw_ao h_needs h_tales) (fw_inj hA (by decide) (by decide) (by decide))) h_needs
  have h_tales := t1
  have h_fits := t2
  have hE := hE.trans (hs.mono (fun _ z => z.elim (fun z => (Or.inl z)) (fun z => (Or.inr (Or.inl z)))))
  show V g X 1 w1 0 0 4 [(0, .ref (A 0))] []
  refine vv_aload_n hC 0 dX8_tests_4 rfl rfl ?_
  refine vv_get (v := .ref (A 13)) hC fl_X8_58 dX8_tests_5 h_who rfl ?_
  refine vv_callV hC dX8_tests_8 md_X5_setCount lk_m_X8_227 lk_i_X5_setCount lk_s_X5_setCount h_tales rfl (As := []) (rest := []) (c_X5_setCount g w1 (A 13) (A 14) (A 15) (A 16) ((f_X8_tellTales tales_away tales_unseenWays tales_seenHouses village now sights_count fits kinds moons places values).1) ((f_X8_tellTales tales_away tales_unseenWays tales_seenHouses village now sights_count fits kinds moons places values).2.1) ((f_X8_tellTales tales_away tales_unseenWays tales_seenHouses village now sights_count fits kinds moons places values).2.2.1) ((f_X8_tellTales tales_away tales_unseenWays tales_seenHouses village now sights_count fits kinds moons places values).2.2.2.1) ((f_X8_tellTales tales_away tales_unseenWays tales_seenHouses village now sights_count fits kinds moons places values).2.2.2.2) h_tales h_fits) rfl rfl (Nat.le_of_ble_eq_true rfl) ⟨by decide, by decide, by decide, by decide⟩ (fun r w9 hq => ?_)
  obtain ⟨rfl, rfl⟩ := hq
  show V g X 1 w1 0 0 11 [(0, .ref (A 0))] [.int (f_X5_setCount ((f_X8_tellTales tales_away tales_unseenWays tales_seenHouses village now sights_count fits kinds moons places values).2.2.2.2))]
  have hJ3 : ∀ w5 : Wd, w5 (A 0) = some (.inr (8, cWh A vi (who_keptSlots, who_seed))) → w5 (A 13) = some (.inr (5, cTa (A 14) (A 15) (A 16) ((f_X8_tellTales tales_away tales_unseenWays tales_seenHouses village now sights_count fits kinds moons places values).1, (f_X8_tellTales tales_away tales_unseenWays tales_seenHouses village now sights_count fits kinds moons places values).2.1, (f_X8_tellTales tales_away tales_unseenWays tales_seenHouses village now sights_count fits kinds moons places values).2.2.1, (f_X8_tellTales tales_away tales_unseenWays tales_seenHouses village now sights_count fits kinds moons places values).2.2.2.1))) → w5 vi = some (.inr (7, cVi village)) → w5 (A 3) = some (.inr (2, cN now)) → w5 (A 8) = some (.inr (4, cSi (A 9) (A 10) (A 11) (A 12) sights_count)) → w5 (A 14) = some (.inl (g.2.2.1 1, 64, .inr (.inl ((f_X8_tellTales tales_away tales_unseenWays tales_seenHouses village now sights_count fits kinds moons places values).2.2.2.2)))) → w5 (A 9) = some (.inl (g.2.2.1 0, 6, .inl kinds)) → w5 (A 10) = some (.inl (g.2.2.1 0, 6, .inl moons)) → w5 (A 11) = some (.inl (g.2.2.1 0, 6, .inl places)) → w5 (A 12) = some (.inl (g.2.2.1 0, 6, .inl values)) → w5 (A 15) = some (.inl (g.2.2.1 0, 729, .inl (f_X8_tests_x2 tales_away tales_unseenWays tales_seenHouses village now sights_count fits kinds moons places values left needs))) → w5 (A 16) = some (.inl (g.2.2.1 0, 729, .inl (f_X8_tests_x3 tales_away tales_unseenWays tales_seenHouses village now sights_count fits kinds moons places values left needs))) → wE (fun q => q = (A 13) ∨ q = (A 14) ∨ q = (A 15) ∨ q = (A 16)) w0 w5 → V g X 1 w5 0 0 26 [(0, .ref (A 0))] [.int (f_X8_tests_x1 tales_away tales_unseenWays tales_seenHouses village now sights_count fits kinds moons places values left needs)] := by
    intro w5 h_who h_tales h_village h_now h_sights h_fits h_kinds h_moons h_places h_values h_left h_needs hE
    have hf : (f_X8_tests tales_away tales_unseenWays tales_seenHouses village now sights_count fits kinds moons places values left needs) = ((f_X8_tests_x1 tales_away tales_unseenWays tales_seenHouses village now sights_count fits kinds moons places values left needs), (f_X8_tellTales tales_away tales_unseenWays tales_seenHouses village now sights_count fits kinds moons places values).1, (f_X8_tellTales tales_away tales_unseenWays tales_seenHouses village now sights_count fits kinds moons places values).2.1, (f_X8_tellTales tales_away tales_unseenWays tales_seenHouses village now sights_count fits kinds moons places values).2.2.1, (f_X8_tellTales tales_away tales_unseenWays tales_seenHouses village now sights_count fits kinds moons places values).2.2.2.1, (f_X8_tellTales tales_away tales_unseenWays tales_seenHouses village now sights_count fits kinds moons places values).2.2.2.2, (f_X8_tests_x2 tales_away tales_unseenWays tales_seenHouses village now sights_count fits kinds moons places values left needs), (f_X8_tests_x3 tales_away tales_unseenWays tales_seenHouses village now sights_count fits kinds moons places values left needs)) := by first | (simp only [f_X8_tests]; done) | rfl | (simp only [f_X8_tests]; rfl)
    refine vv_iret hC hR rfl dX8_tests_26 (by omega) (by omega) ?_
    rw [hf]
    try dsimp only
    exact ⟨rfl, h_tales, h_fits, h_left, h_needs, hE⟩
  refine vv_if_ne hC 19 dX8_tests_11 (by decide) (fun c2 => ?_) (fun c2 => ?_)
  · have c2 : ¬ (f_X5_setCount ((f_X8_tellTales tales_away tales_unseenWays tales_seenHouses village now sights_count fits kinds moons places values).2.2.2.2) = 0) := c2
    refine vv_aload_n hC 0 dX8_tests_19 rfl rfl ?_
    refine vv_get (v := .ref (A 13)) hC fl_X8_58 dX8_tests_20 h_who rfl ?_
    refine vv_callV hC dX8_tests_23 md_X5_spoonsAtWorst lk_m_X8_258 lk_i_X5_spoonsAtWorst lk_s_X5_spoonsAtWorst h_tales rfl (As := []) (rest := []) (c_X5_spoonsAtWorst g w1 (A 13) (A 14) (A 15) (A 16) ((f_X8_tellTales tales_away tales_unseenWays tales_seenHouses village now sights_count fits kinds moons places values).1) ((f_X8_tellTales tales_away tales_unseenWays tales_seenHouses village now sights_count fits kinds moons places values).2.1) ((f_X8_tellTales tales_away tales_unseenWays tales_seenHouses village now sights_count fits kinds moons places values).2.2.1) ((f_X8_tellTales tales_away tales_unseenWays tales_seenHouses village now sights_count fits kinds moons places values).2.2.2.1) left needs ((f_X8_tellTales tales_away tales_unseenWays tales_seenHouses village now sights_count fits kinds moons places values).2.2.2.2) h_tales h_left h_needs h_fits (fw_inj hA (by decide) (by decide) (by decide)) (fw_inj hA (by decide) (by decide) (by decide)) (fw_inj hA (by decide) (by decide) (by decide))) rfl rfl (Nat.le_of_ble_eq_true rfl) ⟨by decide, by decide, by decide, by decide⟩ (fun r w9 hq => ?_)
    obtain ⟨rfl, t1, t2, hs⟩ := hq
    obtain ⟨w4, rfl⟩ : ∃ z, z = w9 := ⟨_, rfl⟩
    have h_who := hs _ _ (fun z => z.elim (fw_oa h_who h_left) (fw_oa h_who h_needs)) h_who
    have h_tales := hs _ _ (fun z => z.elim (fw_oa h_tales h_left) (fw_oa h_tales h_needs)) h_tales
    have h_village := hs _ _ (fun z => z.elim (fw_oa h_village h_left) (fw_oa h_village h_needs)) h_village
    have h_now := hs _ _ (fun z => z.elim (fw_oa h_now h_left) (fw_oa h_now h_needs)) h_now
    have h_sights := hs _ _ (fun z => z.elim (fw_oa h_sights h_left) (fw_oa h_sights h_needs)) h_sights
    have h_fits := hs _ _ (fun z => z.elim (fw_inj hA (by decide) (by decide) (by decide)) (fw_inj hA (by decide) (by decide) (by decide))) h_fits
    have h_kinds := hs _ _ (fun z => z.elim (fw_inj hA (by decide) (by decide) (by decide)) (fw_inj hA (by decide) (by decide) (by decide))) h_kinds
    have h_moons := hs _ _ (fun z => z.elim (fw_inj hA (by decide) (by decide) (by decide)) (fw_inj hA (by decide) (by decide) (by decide))) h_moons
    have h_places := hs _ _ (fun z => z.elim (fw_inj hA (by decide) (by decide) (by decide)) (fw_inj hA (by decide) (by decide) (by decide))) h_places
    have h_values := hs _ _ (fun z => z.elim (fw_inj hA (by decide) (by decide) (by decide)) (fw_inj hA (by decide) (by decide) (by decide))) h_values
    have h_left := t1
    have h_needs := t2
    have hE := hE.trans (hs.mono (fun _ z => z.elim (fun z => (Or.inr (Or.inr (Or.inl z)))) (fun z => (Or.inr (Or.inr (Or.inr z))))))
    show V g X 1 w4 0 0 26 [(0, .ref (A 0))] [.int ((f_X5_spoonsAtWorst left needs ((f_X8_tellTales tales_away tales_unseenWays tales_seenHouses village now sights_count fits kinds moons places values).2.2.2.2)).1)]
    have hz := hJ3 w4
    try simp only [f_X8_tests_x1, f_X8_tests_x2, f_X8_tests_x3, if_neg c2] at hz
    first | exact hz h_who h_tales h_village h_now h_sights h_fits h_kinds h_moons h_places h_values h_left h_needs hE | (simp only [f_X8_tests_x1, f_X8_tests_x2, f_X8_tests_x3, if_neg c2]; exact hz h_who h_tales h_village h_now h_sights h_fits h_kinds h_moons h_places h_values h_left h_needs hE)
  · have c2 : f_X5_setCount ((f_X8_tellTales tales_away tales_unseenWays tales_seenHouses village now sights_count fits kinds moons places values).2.2.2.2) = 0 := c2
    refine vv_bipush (v := (-9)) hC dX8_tests_14 (by decide) ?_
    refine vv_goto hC 26 dX8_tests_16 (by decide) ?_
    have hz := hJ3 w1
    try simp only [f_X8_tests_x1, f_X8_tests_x2, f_X8_tests_x3, if_pos c2] at hz
    first | exact hz h_who h_tales h_village h_now h_sights h_fits h_kinds h_moons h_places h_values h_left h_needs hE | (simp only [f_X8_tests_x1, f_X8_tests_x2, f_X8_tests_x3, if_pos c2]; exact hz h_who h_tales h_village h_now h_sights h_fits h_kinds h_moons h_places h_values h_left h_needs hE)
def f_X8_choiceOf_x1 (now : TN) (village : TVi) (fits : Nat → Int64) (p1 : Int32) (k54 : Nat) (l3_54 : Int32) (l4_54 : Int32) : Int32 := (if f_X8_has (if f_X8_has (gN_wolves now) p1 = true then ((f_X2_there now village &&& (f_X8_bit p1 ^^^ (-1))) &&& (gN_wolves now ^^^ (-1))) else (f_X2_there now village &&& (f_X8_bit p1 ^^^ (-1)))) (nI k54) = true then (if f_X5_setsWith fits (nI k54) ≤ l4_54 then l3_54 else nI k54) else l3_54)
def f_X8_choiceOf_x2 (now : TN) (village : TVi) (fits : Nat → Int64) (p1 : Int32) (k54 : Nat) (l4_54 : Int32) : Int32 := (if f_X8_has (if f_X8_has (gN_wolves now) p1 = true then ((f_X2_there now village &&& (f_X8_bit p1 ^^^ (-1))) &&& (gN_wolves now ^^^ (-1))) else (f_X2_there now village &&& (f_X8_bit p1 ^^^ (-1)))) (nI k54) = true then (if f_X5_setsWith fits (nI k54) ≤ l4_54 then l4_54 else f_X5_setsWith fits (nI k54)) else l4_54)
def f_X8_choiceOf_L54 (now : TN) (village : TVi) (fits : Nat → Int64) (p1 : Int32) : Nat → Nat → Int32 → Int32 → Int32 × Int32
  | 0, k54, l3_54, l4_54 => (l3_54, l4_54)
  | r54 + 1, k54, l3_54, l4_54 => f_X8_choiceOf_L54 now village fits p1 r54 (k54 + 1) (f_X8_choiceOf_x1 now village fits p1 k54 l3_54 l4_54) (f_X8_choiceOf_x2 now village fits p1 k54 l4_54)
def f_X8_choiceOf (now : TN) (village : TVi) (fits : Nat → Int64) (p1 : Int32) : Int32 := (f_X8_choiceOf_L54 now village fits p1 (gVi_people village) 0 (-9) (-1)).1
set_option maxHeartbeats 4000000 in
set_option maxRecDepth 100000 in
theorem c_X8_choiceOf (g : GT) (w0 : Wd) (A : Nat → Nat) (hA : ∀ i j, i < 60 → j < 60 → A i = A j → i = j) (vi : Nat) (who_keptSlots : Int32) (who_seed : Int64) (now : TN) (village : TVi) (tales_people : Nat) (tales_away : Int32) (tales_unseenWays : Int64) (tales_seenHouses : Int64) (fits : Nat → Int64) (p1 : Int32) (hvh : gVi_houses village ≤ 4) (hvp : gVi_people village ≤ 6) (h_who : w0 (A 0) = some (.inr (8, cWh A vi (who_keptSlots, who_seed)))) (h_now : w0 (A 3) = some (.inr (2, cN now))) (h_village : w0 vi = some (.inr (7, cVi village))) (h_tales : w0 (A 13) = some (.inr (5, cTa (A 14) (A 15) (A 16) (tales_people, tales_away, tales_unseenWays, tales_seenHouses)))) (h_fits : w0 (A 14) = some (.inl (g.2.2.1 1, 64, .inr (.inl fits)))) : CT g yX8_choiceOf cX8_choiceOf 7 (some .int) 2 44 0 0 w0 [.ref (A 0), .int p1] (fun r w2 => r = some (.int (f_X8_choiceOf now village fits p1)) ∧ w0 = w2) := by
  refine CT.of (own := RX8) (by decide +kernel) rfl (Nat.le_of_ble_eq_true rfl) (fun X hC hR hI => ?_)
  show V g X 7 w0 0 0 0 [(0, .ref (A 0)), (1, .int p1)] []
  refine vv_aload_n hC 0 dX8_choiceOf_0 rfl rfl ?_
  refine vv_get (v := .ref (A 3)) hC fl_X8_26 dX8_choiceOf_1 h_who rfl ?_
  refine vv_aload_n hC 0 dX8_choiceOf_4 rfl rfl ?_
  refine vv_get (v := .ref vi) hC fl_X8_19 dX8_choiceOf_5 h_who rfl ?_
  refine vv_callV hC dX8_choiceOf_8 md_X2_there lk_m_X8_236 lk_i_X2_there lk_s_X2_there h_now rfl (As := [.ref vi]) (rest := []) (c_X2_there g w0 (A 3) vi now village h_now h_village) rfl rfl (Nat.le_of_ble_eq_true rfl) ⟨by decide, by decide, by decide, by decide⟩ (fun r w9 hq => ?_)
  obtain ⟨rfl, rfl⟩ := hq
  show V g X 7 w0 0 0 11 [(0, .ref (A 0)), (1, .int p1)] [.int (f_X2_there now village)]
  refine vv_iload_n hC 1 dX8_choiceOf_11 rfl rfl ?_
  refine vv_callS hC dX8_choiceOf_12 md_X8_bit lk_m_X8_184 lk_t_X8_bit (As := [.int p1]) (rest := [.int (f_X2_there now village)]) (c_X8_bit g w0 p1) rfl rfl (Nat.le_of_ble_eq_true rfl) ⟨by decide, by decide, by decide, by decide⟩ (fun r w9 hq => ?_)
  obtain ⟨rfl, rfl⟩ := hq
  show V g X 7 w0 0 0 15 [(0, .ref (A 0)), (1, .int p1)] [.int (f_X8_bit p1), .int (f_X2_there now village)]
  refine vv_iconst (v := (-1)) hC dX8_choiceOf_15 (by decide) ?_
  refine vv_ixor hC dX8_choiceOf_16 ?_
  refine vv_iand hC dX8_choiceOf_17 ?_
  refine vv_istore_n (lv2 := [(2, .int (f_X2_there now village &&& (f_X8_bit p1 ^^^ (-1)))), (0, .ref (A 0)), (1, .int p1)]) hC dX8_choiceOf_18 rfl (by decide) rfl ?_
  refine vv_aload_n hC 1 dX8_choiceOf_19 rfl rfl ?_
  refine vv_get (v := .ref (A 3)) hC fl_X8_26 dX8_choiceOf_20 h_who rfl ?_
  refine vv_getN (v := .int (gN_wolves now)) hC fl_X8_140 dX8_choiceOf_23 h_now rfl ?_
  refine vv_iload_n hC 2 dX8_choiceOf_26 rfl rfl ?_
  refine vv_callS hC dX8_choiceOf_27 md_X8_has lk_m_X8_166 lk_t_X8_has (As := [.int (gN_wolves now), .int p1]) (rest := []) (c_X8_has g w0 (gN_wolves now) p1) rfl rfl (Nat.le_of_ble_eq_true rfl) ⟨by decide, by decide, by decide, by decide⟩ (fun r w9 hq => ?_)
  obtain ⟨rfl, rfl⟩ := hq
  show V g X 7 w0 0 0 30 [(2, .int (f_X2_there now village &&& (f_X8_bit p1 ^^^ (-1)))), (0, .ref (A 0)), (1, .int p1)] [.int (bI (f_X8_has (gN_wolves now) p1))]
  have hJ2 : V g X 7 w0 0 0 45 [(0, .ref (A 0)), (1, .int p1), (2, .int (if f_X8_has (gN_wolves now) p1 = true then ((f_X2_there now village &&& (f_X8_bit p1 ^^^ (-1))) &&& (gN_wolves now ^^^ (-1))) else (f_X2_there now village &&& (f_X8_bit p1 ^^^ (-1)))))] [] := by
    refine vv_bipush (v := (-9)) hC dX8_choiceOf_45 (by decide) ?_
    refine vv_istore_n (lv2 := [(3, .int (-9)), (0, .ref (A 0)), (1, .int p1), (2, .int (if f_X8_has (gN_wolves now) p1 = true then ((f_X2_there now village &&& (f_X8_bit p1 ^^^ (-1))) &&& (gN_wolves now ^^^ (-1))) else (f_X2_there now village &&& (f_X8_bit p1 ^^^ (-1)))))]) hC dX8_choiceOf_47 rfl (by decide) rfl ?_
    refine vv_iconst (v := (-1)) hC dX8_choiceOf_48 (by decide) ?_
    refine vv_istore (lv2 := [(4, .int (-1)), (3, .int (-9)), (0, .ref (A 0)), (1, .int p1), (2, .int (if f_X8_has (gN_wolves now) p1 = true then ((f_X2_there now village &&& (f_X8_bit p1 ^^^ (-1))) &&& (gN_wolves now ^^^ (-1))) else (f_X2_there now village &&& (f_X8_bit p1 ^^^ (-1)))))]) hC dX8_choiceOf_49 (by decide) rfl ?_
    refine vv_iconst (v := 0) hC dX8_choiceOf_51 (by decide) ?_
    refine vv_istore (lv2 := [(5, .int 0), (4, .int (-1)), (3, .int (-9)), (0, .ref (A 0)), (1, .int p1), (2, .int (if f_X8_has (gN_wolves now) p1 = true then ((f_X2_there now village &&& (f_X8_bit p1 ^^^ (-1))) &&& (gN_wolves now ^^^ (-1))) else (f_X2_there now village &&& (f_X8_bit p1 ^^^ (-1)))))]) hC dX8_choiceOf_52 (by decide) rfl ?_
    have hL6 : ∀ (r54 k54 : Nat) (l3_54 : Int32) (l4_54 : Int32) (out : Int32 × Int32), k54 + r54 = gVi_people village → out = f_X8_choiceOf_L54 now village fits p1 r54 k54 l3_54 l4_54 → V g X 7 w0 0 0 106 [(0, .ref (A 0)), (1, .int p1), (2, .int (if f_X8_has (gN_wolves now) p1 = true then ((f_X2_there now village &&& (f_X8_bit p1 ^^^ (-1))) &&& (gN_wolves now ^^^ (-1))) else (f_X2_there now village &&& (f_X8_bit p1 ^^^ (-1))))), (3, .int out.1), (4, .int out.2)] [] → V g X 7 w0 0 0 54 [(0, .ref (A 0)), (1, .int p1), (2, .int (if f_X8_has (gN_wolves now) p1 = true then ((f_X2_there now village &&& (f_X8_bit p1 ^^^ (-1))) &&& (gN_wolves now ^^^ (-1))) else (f_X2_there now village &&& (f_X8_bit p1 ^^^ (-1))))), (3, .int l3_54), (4, .int l4_54), (5, .int (nI k54))] [] := by
      intro r54
      induction r54 with
      | zero =>
        intro k54 l3_54 l4_54 out hb ho hk
        refine vv_iload hC 5 dX8_choiceOf_54 rfl ?_
        refine vv_aload_n hC 0 dX8_choiceOf_56 rfl rfl ?_
        refine vv_get (v := .ref vi) hC fl_X8_19 dX8_choiceOf_57 h_who rfl ?_
        refine vv_getN (v := .int (nI (gVi_people village))) hC fl_X8_104 dX8_choiceOf_60 h_village rfl ?_
        refine vv_icmp_ge hC 106 dX8_choiceOf_63 (by decide) (fun c => ?_) (fun c => False.elim (c ((nI_le_ (a := gVi_people village) (b := k54) (by omega) (by omega)).mpr (by omega))))
        refine vv_lv [0, 1, 2, 3, 4] rfl ?_
        have ho := ho.trans (by first | (simp only [f_X8_choiceOf_L54]; done) | rfl | (simp only [f_X8_choiceOf_L54]; rfl) : _ = (l3_54, l4_54))
        subst ho
        exact hk
      | succ r54 ih =>
        intro k54 l3_54 l4_54 out hb ho hk
        refine vv_iload hC 5 dX8_choiceOf_54 rfl ?_
        refine vv_aload_n hC 0 dX8_choiceOf_56 rfl rfl ?_
        refine vv_get (v := .ref vi) hC fl_X8_19 dX8_choiceOf_57 h_who rfl ?_
        refine vv_getN (v := .int (nI (gVi_people village))) hC fl_X8_104 dX8_choiceOf_60 h_village rfl ?_
        refine vv_icmp_ge hC 106 dX8_choiceOf_63 (by decide) (fun c => absurd ((nI_le_ (a := gVi_people village) (b := k54) (by omega) (by omega)).mp c) (by first | omega | decide)) (fun c => ?_)
        refine vv_aload_n hC 0 dX8_choiceOf_66 rfl rfl ?_
        refine vv_get (v := .ref (A 13)) hC fl_X8_58 dX8_choiceOf_67 h_who rfl ?_
        refine vv_iload hC 5 dX8_choiceOf_70 rfl ?_
        refine vv_callV hC dX8_choiceOf_72 md_X5_setsWith lk_m_X8_313 lk_i_X5_setsWith lk_s_X5_setsWith h_tales rfl (As := [.int (nI k54)]) (rest := []) (c_X5_setsWith g w0 (A 13) (A 14) (A 15) (A 16) tales_people tales_away tales_unseenWays tales_seenHouses fits (nI k54) h_tales h_fits) rfl rfl (Nat.le_of_ble_eq_true rfl) ⟨by decide, by decide, by decide, by decide⟩ (fun r w9 hq => ?_)
        obtain ⟨rfl, rfl⟩ := hq
        show V g X 7 w0 0 0 75 [(0, .ref (A 0)), (1, .int p1), (2, .int (if f_X8_has (gN_wolves now) p1 = true then ((f_X2_there now village &&& (f_X8_bit p1 ^^^ (-1))) &&& (gN_wolves now ^^^ (-1))) else (f_X2_there now village &&& (f_X8_bit p1 ^^^ (-1))))), (3, .int l3_54), (4, .int l4_54), (5, .int (nI k54))] [.int (f_X5_setsWith fits (nI k54))]
        refine vv_istore (lv2 := [(6, .int (f_X5_setsWith fits (nI k54))), (0, .ref (A 0)), (1, .int p1), (2, .int (if f_X8_has (gN_wolves now) p1 = true then ((f_X2_there now village &&& (f_X8_bit p1 ^^^ (-1))) &&& (gN_wolves now ^^^ (-1))) else (f_X2_there now village &&& (f_X8_bit p1 ^^^ (-1))))), (3, .int l3_54), (4, .int l4_54), (5, .int (nI k54))]) hC dX8_choiceOf_75 (by decide) rfl ?_
        refine vv_iload_n hC 3 dX8_choiceOf_77 rfl rfl ?_
        refine vv_iload hC 6 dX8_choiceOf_78 rfl ?_
        refine vv_callS hC dX8_choiceOf_80 md_X8_has lk_m_X8_166 lk_t_X8_has (As := [.int (if f_X8_has (gN_wolves now) p1 = true then ((f_X2_there now village &&& (f_X8_bit p1 ^^^ (-1))) &&& (gN_wolves now ^^^ (-1))) else (f_X2_there now village &&& (f_X8_bit p1 ^^^ (-1)))), .int (nI k54)]) (rest := []) (c_X8_has g w0 (if f_X8_has (gN_wolves now) p1 = true then ((f_X2_there now village &&& (f_X8_bit p1 ^^^ (-1))) &&& (gN_wolves now ^^^ (-1))) else (f_X2_there now village &&& (f_X8_bit p1 ^^^ (-1)))) (nI k54)) rfl rfl (Nat.le_of_ble_eq_true rfl) ⟨by decide, by decide, by decide, by decide⟩ (fun r w9 hq => ?_)
        obtain ⟨rfl, rfl⟩ := hq
        show V g X 7 w0 0 0 83 [(6, .int (f_X5_setsWith fits (nI k54))), (0, .ref (A 0)), (1, .int p1), (2, .int (if f_X8_has (gN_wolves now) p1 = true then ((f_X2_there now village &&& (f_X8_bit p1 ^^^ (-1))) &&& (gN_wolves now ^^^ (-1))) else (f_X2_there now village &&& (f_X8_bit p1 ^^^ (-1))))), (3, .int l3_54), (4, .int l4_54), (5, .int (nI k54))] [.int (bI (f_X8_has (if f_X8_has (gN_wolves now) p1 = true then ((f_X2_there now village &&& (f_X8_bit p1 ^^^ (-1))) &&& (gN_wolves now ^^^ (-1))) else (f_X2_there now village &&& (f_X8_bit p1 ^^^ (-1)))) (nI k54)))]
        have hJ4 : V g X 7 w0 0 0 100 [(0, .ref (A 0)), (1, .int p1), (2, .int (if f_X8_has (gN_wolves now) p1 = true then ((f_X2_there now village &&& (f_X8_bit p1 ^^^ (-1))) &&& (gN_wolves now ^^^ (-1))) else (f_X2_there now village &&& (f_X8_bit p1 ^^^ (-1))))), (3, .int (f_X8_choiceOf_x1 now village fits p1 k54 l3_54 l4_54)), (4, .int (f_X8_choiceOf_x2 now village fits p1 k54 l4_54)), (5, .int (nI k54)), (6, .int (f_X5_setsWith fits (nI k54)))] [] := by
          refine vv_iinc (lv2 := [(5, .int (nI (k54 + 1))), (0, .ref (A 0)), (1, .int p1), (2, .int (if f_X8_has (gN_wolves now) p1 = true then ((f_X2_there now village &&& (f_X8_bit p1 ^^^ (-1))) &&& (gN_wolves now ^^^ (-1))) else (f_X2_there now village &&& (f_X8_bit p1 ^^^ (-1))))), (3, .int (f_X8_choiceOf_x1 now village fits p1 k54 l3_54 l4_54)), (4, .int (f_X8_choiceOf_x2 now village fits p1 k54 l4_54)), (6, .int (f_X5_setsWith fits (nI k54)))]) hC 5 dX8_choiceOf_100 rfl (nI_add k54 1) (by decide) rfl ?_
          refine vv_goto hC 54 dX8_choiceOf_103 (by decide) ?_
          refine vv_lv [1, 2, 3, 4, 5, 0] rfl ?_
          exact ih (k54 + 1) (f_X8_choiceOf_x1 now village fits p1 k54 l3_54 l4_54) (f_X8_choiceOf_x2 now village fits p1 k54 l4_54) out (by omega) (ho.trans (by first | (simp only [f_X8_choiceOf_L54]; done) | rfl | (simp only [f_X8_choiceOf_L54]; rfl))) hk
        refine vv_if_eq hC 100 dX8_choiceOf_83 (by decide) (fun c3 => ?_) (fun c3 => ?_)
        · have c3 : ¬ (f_X8_has (if f_X8_has (gN_wolves now) p1 = true then ((f_X2_there now village &&& (f_X8_bit p1 ^^^ (-1))) &&& (gN_wolves now ^^^ (-1))) else (f_X2_there now village &&& (f_X8_bit p1 ^^^ (-1)))) (nI k54) = true) := bI_f c3
          refine vv_lv [1, 2, 3, 4, 5, 6, 0] rfl ?_
          have hz := hJ4
          try simp only [f_X8_choiceOf_x1, f_X8_choiceOf_x2, if_neg c3] at hz
          first | exact hz | (simp only [f_X8_choiceOf_x1, f_X8_choiceOf_x2, if_neg c3]; exact hz)
        · have c3 : f_X8_has (if f_X8_has (gN_wolves now) p1 = true then ((f_X2_there now village &&& (f_X8_bit p1 ^^^ (-1))) &&& (gN_wolves now ^^^ (-1))) else (f_X2_there now village &&& (f_X8_bit p1 ^^^ (-1)))) (nI k54) = true := bI_t c3
          refine vv_iload hC 0 dX8_choiceOf_86 rfl ?_
          refine vv_iload hC 5 dX8_choiceOf_88 rfl ?_
          refine vv_icmp_le hC 100 dX8_choiceOf_90 (by decide) (fun c5 => ?_) (fun c5 => ?_)
          · have c5 : f_X5_setsWith fits (nI k54) ≤ l4_54 := c5
            refine vv_lv [1, 2, 3, 4, 5, 6, 0] rfl ?_
            have hz := hJ4
            try simp only [f_X8_choiceOf_x1, f_X8_choiceOf_x2, if_pos c3, if_pos c5] at hz
            first | exact hz | (simp only [f_X8_choiceOf_x1, f_X8_choiceOf_x2, if_pos c3, if_pos c5]; exact hz)
          · have c5 : ¬ (f_X5_setsWith fits (nI k54) ≤ l4_54) := c5
            refine vv_iload hC 6 dX8_choiceOf_93 rfl ?_
            refine vv_istore_n (lv2 := [(3, .int (nI k54)), (6, .int (f_X5_setsWith fits (nI k54))), (0, .ref (A 0)), (1, .int p1), (2, .int (if f_X8_has (gN_wolves now) p1 = true then ((f_X2_there now village &&& (f_X8_bit p1 ^^^ (-1))) &&& (gN_wolves now ^^^ (-1))) else (f_X2_there now village &&& (f_X8_bit p1 ^^^ (-1))))), (4, .int l4_54), (5, .int (nI k54))]) hC dX8_choiceOf_95 rfl (by decide) rfl ?_
            refine vv_iload hC 1 dX8_choiceOf_96 rfl ?_
            refine vv_istore (lv2 := [(4, .int (f_X5_setsWith fits (nI k54))), (3, .int (nI k54)), (6, .int (f_X5_setsWith fits (nI k54))), (0, .ref (A 0)), (1, .int p1), (2, .int (if f_X8_has (gN_wolves now) p1 = true then ((f_X2_there now village &&& (f_X8_bit p1 ^^^ (-1))) &&& (gN_wolves now ^^^ (-1))) else (f_X2_there now village &&& (f_X8_bit p1 ^^^ (-1))))), (5, .int (nI k54))]) hC dX8_choiceOf_98 (by decide) rfl ?_
            refine vv_lv [3, 4, 5, 1, 0, 6, 2] rfl ?_
            have hz := hJ4
            try simp only [f_X8_choiceOf_x1, f_X8_choiceOf_x2, if_pos c3, if_neg c5] at hz
            first | exact hz | (simp only [f_X8_choiceOf_x1, f_X8_choiceOf_x2, if_pos c3, if_neg c5]; exact hz)
    refine vv_lv [3, 4, 5, 2, 1, 0] rfl ?_
    refine hL6 (gVi_people village) 0 (-9) (-1) (f_X8_choiceOf_L54 now village fits p1 (gVi_people village) 0 (-9) (-1)) (by omega) rfl ?_
    refine vv_iload_n hC 3 dX8_choiceOf_106 rfl rfl ?_
    have hf : (f_X8_choiceOf now village fits p1) = (f_X8_choiceOf_L54 now village fits p1 (gVi_people village) 0 (-9) (-1)).1 := by first | (simp only [f_X8_choiceOf]; done) | rfl | (simp only [f_X8_choiceOf]; rfl)
    refine vv_iret hC hR rfl dX8_choiceOf_107 (by omega) (by omega) ?_
    rw [hf]
    exact ⟨rfl, rfl⟩
  refine vv_if_eq hC 45 dX8_choiceOf_30 (by decide) (fun c1 => ?_) (fun c1 => ?_)
  · have c1 : ¬ (f_X8_has (gN_wolves now) p1 = true) := bI_f c1
    refine vv_lv [1, 2, 0] rfl ?_
    have hz := hJ2
    try simp only [if_neg c1] at hz
    first | exact hz | (simp only [if_neg c1]; exact hz)
  · have c1 : f_X8_has (gN_wolves now) p1 = true := bI_t c1
    refine vv_iload_n hC 0 dX8_choiceOf_33 rfl rfl ?_
    refine vv_aload_n hC 1 dX8_choiceOf_34 rfl rfl ?_
    refine vv_get (v := .ref (A 3)) hC fl_X8_26 dX8_choiceOf_35 h_who rfl ?_
    refine vv_getN (v := .int (gN_wolves now)) hC fl_X8_140 dX8_choiceOf_38 h_now rfl ?_
    refine vv_iconst (v := (-1)) hC dX8_choiceOf_41 (by decide) ?_
    refine vv_ixor hC dX8_choiceOf_42 ?_
    refine vv_iand hC dX8_choiceOf_43 ?_
    refine vv_istore_n (lv2 := [(2, .int ((f_X2_there now village &&& (f_X8_bit p1 ^^^ (-1))) &&& (gN_wolves now ^^^ (-1)))), (0, .ref (A 0)), (1, .int p1)]) hC dX8_choiceOf_44 rfl (by decide) rfl ?_
    refine vv_lv [1, 2, 0] rfl ?_
    have hz := hJ2
    try simp only [if_pos c1] at hz
    first | exact hz | (simp only [if_pos c1]; exact hz)
def f_X8_vote (village : TVi) (now : TN) (tales_people : Nat) (tales_away : Int32) (tales_unseenWays : Int64) (tales_seenHouses : Int64) (sights_count : Nat) (fits : Nat → Int64) (kinds : Nat → Int32) (moons : Nat → Int32) (places : Nat → Int32) (values : Nat → Int32) (p1 : Int32) : Int32 × Nat × Int32 × Int64 × Int64 × (Nat → Int64) := (if f_X8_noPerson village p1 = true then ((-1), tales_people, tales_away, tales_unseenWays, tales_seenHouses, fits) else (if f_X8_has (gN_gone now) p1 = true then ((-3), tales_people, tales_away, tales_unseenWays, tales_seenHouses, fits) else (f_X8_choiceOf now village ((f_X8_tellTales tales_away tales_unseenWays tales_seenHouses village now sights_count fits kinds moons places values).2.2.2.2) p1, (f_X8_tellTales tales_away tales_unseenWays tales_seenHouses village now sights_count fits kinds moons places values).1, (f_X8_tellTales tales_away tales_unseenWays tales_seenHouses village now sights_count fits kinds moons places values).2.1, (f_X8_tellTales tales_away tales_unseenWays tales_seenHouses village now sights_count fits kinds moons places values).2.2.1, (f_X8_tellTales tales_away tales_unseenWays tales_seenHouses village now sights_count fits kinds moons places values).2.2.2.1, (f_X8_tellTales tales_away tales_unseenWays tales_seenHouses village now sights_count fits kinds moons places values).2.2.2.2)))
set_option maxHeartbeats 4000000 in
set_option maxRecDepth 100000 in
theorem c_X8_vote (g : GT) (w0 : Wd) (A : Nat → Nat) (hA : ∀ i j, i < 60 → j < 60 → A i = A j → i = j) (vi : Nat) (who_keptSlots : Int32) (who_seed : Int64) (village : TVi) (now : TN) (tales_people : Nat) (tales_away : Int32) (tales_unseenWays : Int64) (tales_seenHouses : Int64) (sights_count : Nat) (fits : Nat → Int64) (kinds : Nat → Int32) (moons : Nat → Int32) (places : Nat → Int32) (values : Nat → Int32) (p1 : Int32) (hvh : gVi_houses village ≤ 4) (hvp : gVi_people village ≤ 6) (hsc : sights_count ≤ 6) (h_who : w0 (A 0) = some (.inr (8, cWh A vi (who_keptSlots, who_seed)))) (h_village : w0 vi = some (.inr (7, cVi village))) (h_now : w0 (A 3) = some (.inr (2, cN now))) (h_tales : w0 (A 13) = some (.inr (5, cTa (A 14) (A 15) (A 16) (tales_people, tales_away, tales_unseenWays, tales_seenHouses)))) (h_sights : w0 (A 8) = some (.inr (4, cSi (A 9) (A 10) (A 11) (A 12) sights_count))) (h_fits : w0 (A 14) = some (.inl (g.2.2.1 1, 64, .inr (.inl fits)))) (h_kinds : w0 (A 9) = some (.inl (g.2.2.1 0, 6, .inl kinds))) (h_moons : w0 (A 10) = some (.inl (g.2.2.1 0, 6, .inl moons))) (h_places : w0 (A 11) = some (.inl (g.2.2.1 0, 6, .inl places))) (h_values : w0 (A 12) = some (.inl (g.2.2.1 0, 6, .inl values))) : CT g yX8_vote cX8_vote 2 (some .int) 9 258 0 0 w0 [.ref (A 0), .int p1] (fun r w2 => r = some (.int ((f_X8_vote village now tales_people tales_away tales_unseenWays tales_seenHouses sights_count fits kinds moons places values p1).1)) ∧ w2 (A 13) = some (.inr (5, cTa (A 14) (A 15) (A 16) ((f_X8_vote village now tales_people tales_away tales_unseenWays tales_seenHouses sights_count fits kinds moons places values p1).2.1, (f_X8_vote village now tales_people tales_away tales_unseenWays tales_seenHouses sights_count fits kinds moons places values p1).2.2.1, (f_X8_vote village now tales_people tales_away tales_unseenWays tales_seenHouses sights_count fits kinds moons places values p1).2.2.2.1, (f_X8_vote village now tales_people tales_away tales_unseenWays tales_seenHouses sights_count fits kinds moons places values p1).2.2.2.2.1))) ∧ w2 (A 14) = some (.inl (g.2.2.1 1, 64, .inr (.inl ((f_X8_vote village now tales_people tales_away tales_unseenWays tales_seenHouses sights_count fits kinds moons places values p1).2.2.2.2.2)))) ∧ wE (fun q => q = (A 13) ∨ q = (A 14)) w0 w2) := by
  refine CT.of (own := RX8) (by decide +kernel) rfl (Nat.le_of_ble_eq_true rfl) (fun X hC hR hI => ?_)
  show V g X 2 w0 0 0 0 [(0, .ref (A 0)), (1, .int p1)] []
  have hE : wE (fun q => q = (A 13) ∨ q = (A 14)) w0 w0 := wE.refl
  refine vv_aload_n hC 0 dX8_vote_0 rfl rfl ?_
  refine vv_iload_n hC 1 dX8_vote_1 rfl rfl ?_
  refine vv_callV hC dX8_vote_2 md_X8_noPerson lk_m_X8_134 lk_i_X8_noPerson lk_s_X8_noPerson h_who rfl (As := [.int p1]) (rest := []) (c_X8_noPerson g w0 A hA vi who_keptSlots who_seed village p1 h_who h_village) rfl rfl (Nat.le_of_ble_eq_true rfl) ⟨by decide, by decide, by decide, by decide⟩ (fun r w9 hq => ?_)
  obtain ⟨rfl, rfl⟩ := hq
  show V g X 2 w0 0 0 5 [(0, .ref (A 0)), (1, .int p1)] [.int (bI (f_X8_noPerson village p1))]
  refine vv_if_eq hC 10 dX8_vote_5 (by decide) (fun c1 => ?_) (fun c1 => ?_)
  · have c1 : ¬ (f_X8_noPerson village p1 = true) := bI_f c1
    refine vv_aload_n hC 0 dX8_vote_10 rfl rfl ?_
    refine vv_get (v := .ref (A 3)) hC fl_X8_26 dX8_vote_11 h_who rfl ?_
    refine vv_getN (v := .int (gN_gone now)) hC fl_X8_150 dX8_vote_14 h_now rfl ?_
    refine vv_iload_n hC 1 dX8_vote_17 rfl rfl ?_
    refine vv_callS hC dX8_vote_18 md_X8_has lk_m_X8_166 lk_t_X8_has (As := [.int (gN_gone now), .int p1]) (rest := []) (c_X8_has g w0 (gN_gone now) p1) rfl rfl (Nat.le_of_ble_eq_true rfl) ⟨by decide, by decide, by decide, by decide⟩ (fun r w9 hq => ?_)
    obtain ⟨rfl, rfl⟩ := hq
    show V g X 2 w0 0 0 21 [(0, .ref (A 0)), (1, .int p1)] [.int (bI (f_X8_has (gN_gone now) p1))]
    refine vv_if_eq hC 27 dX8_vote_21 (by decide) (fun c2 => ?_) (fun c2 => ?_)
    · have c2 : ¬ (f_X8_has (gN_gone now) p1 = true) := bI_f c2
      refine vv_aload_n hC 0 dX8_vote_27 rfl rfl ?_
      refine vv_callV hC dX8_vote_28 md_X8_tellTales lk_m_X8_220 lk_i_X8_tellTales lk_s_X8_tellTales h_who rfl (As := []) (rest := []) (c_X8_tellTales g w0 A hA vi who_keptSlots who_seed tales_people tales_away tales_unseenWays tales_seenHouses village now sights_count fits kinds moons places values (by omega) (by omega) (by omega) h_who h_tales h_village h_now h_sights h_fits h_kinds h_moons h_places h_values) rfl rfl (Nat.le_of_ble_eq_true rfl) ⟨by decide, by decide, by decide, by decide⟩ (fun r w9 hq => ?_)
      obtain ⟨rfl, t1, t2, hs⟩ := hq
      obtain ⟨w3, rfl⟩ : ∃ z, z = w9 := ⟨_, rfl⟩
      have h_who := hs _ _ (fun z => z.elim (fw_oo h_who h_tales (by decide)) (fw_oa h_who h_fits)) h_who
      have h_village := hs _ _ (fun z => z.elim (fw_oo h_village h_tales (by decide)) (fw_oa h_village h_fits)) h_village
      have h_now := hs _ _ (fun z => z.elim (fw_oo h_now h_tales (by decide)) (fw_oa h_now h_fits)) h_now
      have h_sights := hs _ _ (fun z => z.elim (fw_oo h_sights h_tales (by decide)) (fw_oa h_sights h_fits)) h_sights
      have h_kinds := hs _ _ (fun z => z.elim (fw_ao h_kinds h_tales) (fw_inj hA (by decide) (by decide) (by decide))) h_kinds
      have h_moons := hs _ _ (fun z => z.elim (fw_ao h_moons h_tales) (fw_inj hA (by decide) (by decide) (by decide))) h_moons
      have h_places := hs _ _ (fun z => z.elim (fw_ao h_places h_tales) (fw_inj hA (by decide) (by decide) (by decide))) h_places
      have h_values := hs _ _ (fun z => z.elim (fw_ao h_values h_tales) (fw_inj hA (by decide) (by decide) (by decide))) h_values
      have h_tales := t1
      have h_fits := t2
      have hE := hE.trans (hs.mono (fun _ z => z.elim (fun z => (Or.inl z)) (fun z => (Or.inr z))))
      show V g X 2 w3 0 0 31 [(0, .ref (A 0)), (1, .int p1)] []
      refine vv_aload_n hC 0 dX8_vote_31 rfl rfl ?_
      refine vv_iload_n hC 1 dX8_vote_32 rfl rfl ?_
      refine vv_callV hC dX8_vote_33 md_X8_choiceOf lk_m_X8_261 lk_i_X8_choiceOf lk_s_X8_choiceOf h_who rfl (As := [.int p1]) (rest := []) (c_X8_choiceOf g w3 A hA vi who_keptSlots who_seed now village ((f_X8_tellTales tales_away tales_unseenWays tales_seenHouses village now sights_count fits kinds moons places values).1) ((f_X8_tellTales tales_away tales_unseenWays tales_seenHouses village now sights_count fits kinds moons places values).2.1) ((f_X8_tellTales tales_away tales_unseenWays tales_seenHouses village now sights_count fits kinds moons places values).2.2.1) ((f_X8_tellTales tales_away tales_unseenWays tales_seenHouses village now sights_count fits kinds moons places values).2.2.2.1) ((f_X8_tellTales tales_away tales_unseenWays tales_seenHouses village now sights_count fits kinds moons places values).2.2.2.2) p1 (by omega) (by omega) h_who h_now h_village h_tales h_fits) rfl rfl (Nat.le_of_ble_eq_true rfl) ⟨by decide, by decide, by decide, by decide⟩ (fun r w9 hq => ?_)
      obtain ⟨rfl, rfl⟩ := hq
      show V g X 2 w3 0 0 36 [(0, .ref (A 0)), (1, .int p1)] [.int (f_X8_choiceOf now village ((f_X8_tellTales tales_away tales_unseenWays tales_seenHouses village now sights_count fits kinds moons places values).2.2.2.2) p1)]
      have hf : (f_X8_vote village now tales_people tales_away tales_unseenWays tales_seenHouses sights_count fits kinds moons places values p1) = (f_X8_choiceOf now village ((f_X8_tellTales tales_away tales_unseenWays tales_seenHouses village now sights_count fits kinds moons places values).2.2.2.2) p1, (f_X8_tellTales tales_away tales_unseenWays tales_seenHouses village now sights_count fits kinds moons places values).1, (f_X8_tellTales tales_away tales_unseenWays tales_seenHouses village now sights_count fits kinds moons places values).2.1, (f_X8_tellTales tales_away tales_unseenWays tales_seenHouses village now sights_count fits kinds moons places values).2.2.1, (f_X8_tellTales tales_away tales_unseenWays tales_seenHouses village now sights_count fits kinds moons places values).2.2.2.1, (f_X8_tellTales tales_away tales_unseenWays tales_seenHouses village now sights_count fits kinds moons places values).2.2.2.2) := by first | (simp only [f_X8_vote, if_neg c1, if_neg c2]; done) | rfl | (simp only [f_X8_vote, if_neg c1, if_neg c2]; rfl)
      refine vv_iret hC hR rfl dX8_vote_36 (by omega) (by omega) ?_
      rw [hf]
      try dsimp only
      exact ⟨rfl, h_tales, h_fits, hE⟩
    · have c2 : f_X8_has (gN_gone now) p1 = true := bI_t c2
      refine vv_bipush (v := (-3)) hC dX8_vote_24 (by decide) ?_
      have hf : (f_X8_vote village now tales_people tales_away tales_unseenWays tales_seenHouses sights_count fits kinds moons places values p1) = ((-3), tales_people, tales_away, tales_unseenWays, tales_seenHouses, fits) := by first | (simp only [f_X8_vote, if_neg c1, if_pos c2]; done) | rfl | (simp only [f_X8_vote, if_neg c1, if_pos c2]; rfl)
      refine vv_iret hC hR rfl dX8_vote_26 (by omega) (by omega) ?_
      rw [hf]
      try dsimp only
      exact ⟨rfl, h_tales, h_fits, hE⟩
  · have c1 : f_X8_noPerson village p1 = true := bI_t c1
    refine vv_iconst (v := (-1)) hC dX8_vote_8 (by decide) ?_
    have hf : (f_X8_vote village now tales_people tales_away tales_unseenWays tales_seenHouses sights_count fits kinds moons places values p1) = ((-1), tales_people, tales_away, tales_unseenWays, tales_seenHouses, fits) := by first | (simp only [f_X8_vote, if_pos c1]; done) | rfl | (simp only [f_X8_vote, if_pos c1]; rfl)
    refine vv_iret hC hR rfl dX8_vote_9 (by omega) (by omega) ?_
    rw [hf]
    try dsimp only
    exact ⟨rfl, h_tales, h_fits, hE⟩
def f_X8_hanged_x1 (tales_away : Int32) (tales_unseenWays : Int64) (tales_seenHouses : Int64) (village : TVi) (now : TN) (sights_count : Nat) (fits : Nat → Int64) (kinds : Nat → Int32) (moons : Nat → Int32) (places : Nat → Int32) (values : Nat → Int32) (k8 : Nat) (l1_8 : Int64) : Int64 := (if (if f_X8_has (gN_gone now) (nI k8) = true then (-9 : Int32) else f_X8_choiceOf now village ((f_X8_tellTales tales_away tales_unseenWays tales_seenHouses village now sights_count fits kinds moons places values).2.2.2.2) (nI k8)) = (-9) then l1_8 else f_X8_withCell l1_8 (if f_X8_has (gN_gone now) (nI k8) = true then (-9 : Int32) else f_X8_choiceOf now village ((f_X8_tellTales tales_away tales_unseenWays tales_seenHouses village now sights_count fits kinds moons places values).2.2.2.2) (nI k8)) (f_X8_cell l1_8 (if f_X8_has (gN_gone now) (nI k8) = true then (-9 : Int32) else f_X8_choiceOf now village ((f_X8_tellTales tales_away tales_unseenWays tales_seenHouses village now sights_count fits kinds moons places values).2.2.2.2) (nI k8)) + 1))
def f_X8_hanged_L8 (tales_away : Int32) (tales_unseenWays : Int64) (tales_seenHouses : Int64) (village : TVi) (now : TN) (sights_count : Nat) (fits : Nat → Int64) (kinds : Nat → Int32) (moons : Nat → Int32) (places : Nat → Int32) (values : Nat → Int32) : Nat → Nat → Int64 → Int64
  | 0, k8, l1_8 => l1_8
  | r8 + 1, k8, l1_8 => f_X8_hanged_L8 tales_away tales_unseenWays tales_seenHouses village now sights_count fits kinds moons places values r8 (k8 + 1) (f_X8_hanged_x1 tales_away tales_unseenWays tales_seenHouses village now sights_count fits kinds moons places values k8 l1_8)
def f_X8_hanged_x2 (tales_away : Int32) (tales_unseenWays : Int64) (tales_seenHouses : Int64) (village : TVi) (now : TN) (sights_count : Nat) (fits : Nat → Int64) (kinds : Nat → Int32) (moons : Nat → Int32) (places : Nat → Int32) (values : Nat → Int32) (k82 : Nat) (l4_82 : Int32) : Int32 := (if f_X8_cell (f_X8_hanged_L8 tales_away tales_unseenWays tales_seenHouses village now sights_count fits kinds moons places values (gVi_people village) 0 0) (nI k82) ≤ l4_82 then l4_82 else f_X8_cell (f_X8_hanged_L8 tales_away tales_unseenWays tales_seenHouses village now sights_count fits kinds moons places values (gVi_people village) 0 0) (nI k82))
def f_X8_hanged_L82 (tales_away : Int32) (tales_unseenWays : Int64) (tales_seenHouses : Int64) (village : TVi) (now : TN) (sights_count : Nat) (fits : Nat → Int64) (kinds : Nat → Int32) (moons : Nat → Int32) (places : Nat → Int32) (values : Nat → Int32) : Nat → Nat → Int32 → Int32 → Int32 × Int32
  | 0, k82, l3_82, l4_82 => (l3_82, l4_82)
  | r82 + 1, k82, l3_82, l4_82 => f_X8_hanged_L82 tales_away tales_unseenWays tales_seenHouses village now sights_count fits kinds moons places values r82 (k82 + 1) (if f_X8_cell (f_X8_hanged_L8 tales_away tales_unseenWays tales_seenHouses village now sights_count fits kinds moons places values (gVi_people village) 0 0) (nI k82) ≤ l4_82 then l3_82 else nI k82) (f_X8_hanged_x2 tales_away tales_unseenWays tales_seenHouses village now sights_count fits kinds moons places values k82 l4_82)
def f_X8_hanged (tales_away : Int32) (tales_unseenWays : Int64) (tales_seenHouses : Int64) (village : TVi) (now : TN) (sights_count : Nat) (fits : Nat → Int64) (kinds : Nat → Int32) (moons : Nat → Int32) (places : Nat → Int32) (values : Nat → Int32) : Int32 × Nat × Int32 × Int64 × Int64 × (Nat → Int64) := ((f_X8_hanged_L82 tales_away tales_unseenWays tales_seenHouses village now sights_count fits kinds moons places values (gVi_people village) 0 (-9) 0).1, (f_X8_tellTales tales_away tales_unseenWays tales_seenHouses village now sights_count fits kinds moons places values).1, (f_X8_tellTales tales_away tales_unseenWays tales_seenHouses village now sights_count fits kinds moons places values).2.1, (f_X8_tellTales tales_away tales_unseenWays tales_seenHouses village now sights_count fits kinds moons places values).2.2.1, (f_X8_tellTales tales_away tales_unseenWays tales_seenHouses village now sights_count fits kinds moons places values).2.2.2.1, (f_X8_tellTales tales_away tales_unseenWays tales_seenHouses village now sights_count fits kinds moons places values).2.2.2.2)
set_option maxHeartbeats 4000000 in
set_option maxRecDepth 100000 in
theorem c_X8_hanged (g : GT) (w0 : Wd) (A : Nat → Nat) (hA : ∀ i j, i < 60 → j < 60 → A i = A j → i = j) (vi : Nat) (who_keptSlots : Int32) (who_seed : Int64) (tales_people : Nat) (tales_away : Int32) (tales_unseenWays : Int64) (tales_seenHouses : Int64) (village : TVi) (now : TN) (sights_count : Nat) (fits : Nat → Int64) (kinds : Nat → Int32) (moons : Nat → Int32) (places : Nat → Int32) (values : Nat → Int32) (hvh : gVi_houses village ≤ 4) (hvp : gVi_people village ≤ 6) (hsc : sights_count ≤ 6) (h_who : w0 (A 0) = some (.inr (8, cWh A vi (who_keptSlots, who_seed)))) (h_tales : w0 (A 13) = some (.inr (5, cTa (A 14) (A 15) (A 16) (tales_people, tales_away, tales_unseenWays, tales_seenHouses)))) (h_village : w0 vi = some (.inr (7, cVi village))) (h_now : w0 (A 3) = some (.inr (2, cN now))) (h_sights : w0 (A 8) = some (.inr (4, cSi (A 9) (A 10) (A 11) (A 12) sights_count))) (h_fits : w0 (A 14) = some (.inl (g.2.2.1 1, 64, .inr (.inl fits)))) (h_kinds : w0 (A 9) = some (.inl (g.2.2.1 0, 6, .inl kinds))) (h_moons : w0 (A 10) = some (.inl (g.2.2.1 0, 6, .inl moons))) (h_places : w0 (A 11) = some (.inl (g.2.2.1 0, 6, .inl places))) (h_values : w0 (A 12) = some (.inl (g.2.2.1 0, 6, .inl values))) : CT g yX8_hanged cX8_hanged 6 (some .int) 9 258 0 0 w0 [.ref (A 0)] (fun r w2 => r = some (.int ((f_X8_hanged tales_away tales_unseenWays tales_seenHouses village now sights_count fits kinds moons places values).1)) ∧ w2 (A 13) = some (.inr (5, cTa (A 14) (A 15) (A 16) ((f_X8_hanged tales_away tales_unseenWays tales_seenHouses village now sights_count fits kinds moons places values).2.1, (f_X8_hanged tales_away tales_unseenWays tales_seenHouses village now sights_count fits kinds moons places values).2.2.1, (f_X8_hanged tales_away tales_unseenWays tales_seenHouses village now sights_count fits kinds moons places values).2.2.2.1, (f_X8_hanged tales_away tales_unseenWays tales_seenHouses village now sights_count fits kinds moons places values).2.2.2.2.1))) ∧ w2 (A 14) = some (.inl (g.2.2.1 1, 64, .inr (.inl ((f_X8_hanged tales_away tales_unseenWays tales_seenHouses village now sights_count fits kinds moons places values).2.2.2.2.2)))) ∧ wE (fun q => q = (A 13) ∨ q = (A 14)) w0 w2) := by
  refine CT.of (own := RX8) (by decide +kernel) rfl (Nat.le_of_ble_eq_true rfl) (fun X hC hR hI => ?_)
  show V g X 6 w0 0 0 0 [(0, .ref (A 0))] []
  have hE : wE (fun q => q = (A 13) ∨ q = (A 14)) w0 w0 := wE.refl
  refine vv_aload_n hC 0 dX8_hanged_0 rfl rfl ?_
  refine vv_callV hC dX8_hanged_1 md_X8_tellTales lk_m_X8_220 lk_i_X8_tellTales lk_s_X8_tellTales h_who rfl (As := []) (rest := []) (c_X8_tellTales g w0 A hA vi who_keptSlots who_seed tales_people tales_away tales_unseenWays tales_seenHouses village now sights_count fits kinds moons places values (by omega) (by omega) (by omega) h_who h_tales h_village h_now h_sights h_fits h_kinds h_moons h_places h_values) rfl rfl (Nat.le_of_ble_eq_true rfl) ⟨by decide, by decide, by decide, by decide⟩ (fun r w9 hq => ?_)
  obtain ⟨rfl, t1, t2, hs⟩ := hq
  obtain ⟨w1, rfl⟩ : ∃ z, z = w9 := ⟨_, rfl⟩
  have h_who := hs _ _ (fun z => z.elim (fw_oo h_who h_tales (by decide)) (fw_oa h_who h_fits)) h_who
  have h_village := hs _ _ (fun z => z.elim (fw_oo h_village h_tales (by decide)) (fw_oa h_village h_fits)) h_village
  have h_now := hs _ _ (fun z => z.elim (fw_oo h_now h_tales (by decide)) (fw_oa h_now h_fits)) h_now
  have h_sights := hs _ _ (fun z => z.elim (fw_oo h_sights h_tales (by decide)) (fw_oa h_sights h_fits)) h_sights
  have h_kinds := hs _ _ (fun z => z.elim (fw_ao h_kinds h_tales) (fw_inj hA (by decide) (by decide) (by decide))) h_kinds
  have h_moons := hs _ _ (fun z => z.elim (fw_ao h_moons h_tales) (fw_inj hA (by decide) (by decide) (by decide))) h_moons
  have h_places := hs _ _ (fun z => z.elim (fw_ao h_places h_tales) (fw_inj hA (by decide) (by decide) (by decide))) h_places
  have h_values := hs _ _ (fun z => z.elim (fw_ao h_values h_tales) (fw_inj hA (by decide) (by decide) (by decide))) h_values
  have h_tales := t1
  have h_fits := t2
  have hE := hE.trans (hs.mono (fun _ z => z.elim (fun z => (Or.inl z)) (fun z => (Or.inr z))))
  show V g X 6 w1 0 0 4 [(0, .ref (A 0))] []
  refine vv_lconst (v := 0) hC dX8_hanged_4 (by decide) ?_
  refine vv_lstore_n (lv2 := [(1, .long 0), (0, .ref (A 0))]) hC dX8_hanged_5 rfl (by decide) rfl ?_
  refine vv_iconst (v := 0) hC dX8_hanged_6 (by decide) ?_
  refine vv_istore_n (lv2 := [(3, .int 0), (1, .long 0), (0, .ref (A 0))]) hC dX8_hanged_7 rfl (by decide) rfl ?_
  have hL6 : ∀ (r8 k8 : Nat) (l1_8 : Int64) (out : Int64), k8 + r8 = gVi_people village → out = f_X8_hanged_L8 tales_away tales_unseenWays tales_seenHouses village now sights_count fits kinds moons places values r8 k8 l1_8 → V g X 6 w1 0 0 73 [(0, .ref (A 0)), (1, .long out)] [] → V g X 6 w1 0 0 8 [(0, .ref (A 0)), (1, .long l1_8), (3, .int (nI k8))] [] := by
    intro r8
    induction r8 with
    | zero =>
      intro k8 l1_8 out hb ho hk
      refine vv_iload_n hC 2 dX8_hanged_8 rfl rfl ?_
      refine vv_aload_n hC 0 dX8_hanged_9 rfl rfl ?_
      refine vv_get (v := .ref vi) hC fl_X8_19 dX8_hanged_10 h_who rfl ?_
      refine vv_getN (v := .int (nI (gVi_people village))) hC fl_X8_104 dX8_hanged_13 h_village rfl ?_
      refine vv_icmp_ge hC 73 dX8_hanged_16 (by decide) (fun c => ?_) (fun c => False.elim (c ((nI_le_ (a := gVi_people village) (b := k8) (by omega) (by omega)).mpr (by omega))))
      refine vv_lv [0, 1] rfl ?_
      have ho := ho.trans (by first | (simp only [f_X8_hanged_L8]; done) | rfl | (simp only [f_X8_hanged_L8]; rfl) : _ = l1_8)
      subst ho
      exact hk
    | succ r8 ih =>
      intro k8 l1_8 out hb ho hk
      refine vv_iload_n hC 2 dX8_hanged_8 rfl rfl ?_
      refine vv_aload_n hC 0 dX8_hanged_9 rfl rfl ?_
      refine vv_get (v := .ref vi) hC fl_X8_19 dX8_hanged_10 h_who rfl ?_
      refine vv_getN (v := .int (nI (gVi_people village))) hC fl_X8_104 dX8_hanged_13 h_village rfl ?_
      refine vv_icmp_ge hC 73 dX8_hanged_16 (by decide) (fun c => absurd ((nI_le_ (a := gVi_people village) (b := k8) (by omega) (by omega)).mp c) (by first | omega | decide)) (fun c => ?_)
      refine vv_aload_n hC 0 dX8_hanged_19 rfl rfl ?_
      refine vv_get (v := .ref (A 3)) hC fl_X8_26 dX8_hanged_20 h_who rfl ?_
      refine vv_getN (v := .int (gN_gone now)) hC fl_X8_150 dX8_hanged_23 h_now rfl ?_
      refine vv_iload_n hC 2 dX8_hanged_26 rfl rfl ?_
      refine vv_callS hC dX8_hanged_27 md_X8_has lk_m_X8_166 lk_t_X8_has (As := [.int (gN_gone now), .int (nI k8)]) (rest := []) (c_X8_has g w1 (gN_gone now) (nI k8)) rfl rfl (Nat.le_of_ble_eq_true rfl) ⟨by decide, by decide, by decide, by decide⟩ (fun r w9 hq => ?_)
      obtain ⟨rfl, rfl⟩ := hq
      show V g X 6 w1 0 0 30 [(0, .ref (A 0)), (1, .long l1_8), (3, .int (nI k8))] [.int (bI (f_X8_has (gN_gone now) (nI k8)))]
      have hJ3 : V g X 6 w1 0 0 43 [(0, .ref (A 0)), (1, .long l1_8), (3, .int (nI k8))] [.int (if f_X8_has (gN_gone now) (nI k8) = true then (-9 : Int32) else f_X8_choiceOf now village ((f_X8_tellTales tales_away tales_unseenWays tales_seenHouses village now sights_count fits kinds moons places values).2.2.2.2) (nI k8))] := by
        refine vv_istore (lv2 := [(4, .int (if f_X8_has (gN_gone now) (nI k8) = true then (-9 : Int32) else f_X8_choiceOf now village ((f_X8_tellTales tales_away tales_unseenWays tales_seenHouses village now sights_count fits kinds moons places values).2.2.2.2) (nI k8))), (0, .ref (A 0)), (1, .long l1_8), (3, .int (nI k8))]) hC dX8_hanged_43 (by decide) rfl ?_
        refine vv_iload hC 0 dX8_hanged_45 rfl ?_
        refine vv_bipush (v := (-9)) hC dX8_hanged_47 (by decide) ?_
        have hJ5 : V g X 6 w1 0 0 67 [(0, .ref (A 0)), (1, .long (f_X8_hanged_x1 tales_away tales_unseenWays tales_seenHouses village now sights_count fits kinds moons places values k8 l1_8)), (3, .int (nI k8)), (4, .int (if f_X8_has (gN_gone now) (nI k8) = true then (-9 : Int32) else f_X8_choiceOf now village ((f_X8_tellTales tales_away tales_unseenWays tales_seenHouses village now sights_count fits kinds moons places values).2.2.2.2) (nI k8)))] [] := by
          refine vv_iinc (lv2 := [(3, .int (nI (k8 + 1))), (0, .ref (A 0)), (1, .long (f_X8_hanged_x1 tales_away tales_unseenWays tales_seenHouses village now sights_count fits kinds moons places values k8 l1_8)), (4, .int (if f_X8_has (gN_gone now) (nI k8) = true then (-9 : Int32) else f_X8_choiceOf now village ((f_X8_tellTales tales_away tales_unseenWays tales_seenHouses village now sights_count fits kinds moons places values).2.2.2.2) (nI k8)))]) hC 2 dX8_hanged_67 rfl (nI_add k8 1) (by decide) rfl ?_
          refine vv_goto hC 8 dX8_hanged_70 (by decide) ?_
          refine vv_lv [1, 2, 0] rfl ?_
          exact ih (k8 + 1) (f_X8_hanged_x1 tales_away tales_unseenWays tales_seenHouses village now sights_count fits kinds moons places values k8 l1_8) out (by omega) (ho.trans (by first | (simp only [f_X8_hanged_L8]; done) | rfl | (simp only [f_X8_hanged_L8]; rfl))) hk
        refine vv_icmp_eq hC 67 dX8_hanged_49 (by decide) (fun c4 => ?_) (fun c4 => ?_)
        · have c4 : (if f_X8_has (gN_gone now) (nI k8) = true then (-9 : Int32) else f_X8_choiceOf now village ((f_X8_tellTales tales_away tales_unseenWays tales_seenHouses village now sights_count fits kinds moons places values).2.2.2.2) (nI k8)) = (-9) := c4
          refine vv_lv [1, 2, 3, 0] rfl ?_
          have hz := hJ5
          try simp only [f_X8_hanged_x1, if_pos c4] at hz
          first | exact hz | (simp only [f_X8_hanged_x1, if_pos c4]; exact hz)
        · have c4 : ¬ ((if f_X8_has (gN_gone now) (nI k8) = true then (-9 : Int32) else f_X8_choiceOf now village ((f_X8_tellTales tales_away tales_unseenWays tales_seenHouses village now sights_count fits kinds moons places values).2.2.2.2) (nI k8)) = (-9)) := c4
          refine vv_lload_n hC 2 dX8_hanged_52 rfl rfl ?_
          refine vv_iload hC 0 dX8_hanged_53 rfl ?_
          refine vv_lload_n hC 2 dX8_hanged_55 rfl rfl ?_
          refine vv_iload hC 0 dX8_hanged_56 rfl ?_
          refine vv_callS hC dX8_hanged_58 md_X8_cell lk_m_X8_114 lk_t_X8_cell (As := [.long l1_8, .int (if f_X8_has (gN_gone now) (nI k8) = true then (-9 : Int32) else f_X8_choiceOf now village ((f_X8_tellTales tales_away tales_unseenWays tales_seenHouses village now sights_count fits kinds moons places values).2.2.2.2) (nI k8))]) (rest := [.int (if f_X8_has (gN_gone now) (nI k8) = true then (-9 : Int32) else f_X8_choiceOf now village ((f_X8_tellTales tales_away tales_unseenWays tales_seenHouses village now sights_count fits kinds moons places values).2.2.2.2) (nI k8)), .long l1_8]) (c_X8_cell g w1 l1_8 (if f_X8_has (gN_gone now) (nI k8) = true then (-9 : Int32) else f_X8_choiceOf now village ((f_X8_tellTales tales_away tales_unseenWays tales_seenHouses village now sights_count fits kinds moons places values).2.2.2.2) (nI k8))) rfl rfl (Nat.le_of_ble_eq_true rfl) ⟨by decide, by decide, by decide, by decide⟩ (fun r w9 hq => ?_)
          obtain ⟨rfl, rfl⟩ := hq
          show V g X 6 w1 0 0 61 [(4, .int (if f_X8_has (gN_gone now) (nI k8) = true then (-9 : Int32) else f_X8_choiceOf now village ((f_X8_tellTales tales_away tales_unseenWays tales_seenHouses village now sights_count fits kinds moons places values).2.2.2.2) (nI k8))), (0, .ref (A 0)), (1, .long l1_8), (3, .int (nI k8))] [.int (f_X8_cell l1_8 (if f_X8_has (gN_gone now) (nI k8) = true then (-9 : Int32) else f_X8_choiceOf now village ((f_X8_tellTales tales_away tales_unseenWays tales_seenHouses village now sights_count fits kinds moons places values).2.2.2.2) (nI k8))), .int (if f_X8_has (gN_gone now) (nI k8) = true then (-9 : Int32) else f_X8_choiceOf now village ((f_X8_tellTales tales_away tales_unseenWays tales_seenHouses village now sights_count fits kinds moons places values).2.2.2.2) (nI k8)), .long l1_8]
          refine vv_iconst (v := 1) hC dX8_hanged_61 (by decide) ?_
          refine vv_iadd hC dX8_hanged_62 ?_
          refine vv_callS hC dX8_hanged_63 md_X8_withCell lk_m_X8_264 lk_t_X8_withCell (As := [.long l1_8, .int (if f_X8_has (gN_gone now) (nI k8) = true then (-9 : Int32) else f_X8_choiceOf now village ((f_X8_tellTales tales_away tales_unseenWays tales_seenHouses village now sights_count fits kinds moons places values).2.2.2.2) (nI k8)), .int (f_X8_cell l1_8 (if f_X8_has (gN_gone now) (nI k8) = true then (-9 : Int32) else f_X8_choiceOf now village ((f_X8_tellTales tales_away tales_unseenWays tales_seenHouses village now sights_count fits kinds moons places values).2.2.2.2) (nI k8)) + 1)]) (rest := []) (c_X8_withCell g w1 l1_8 (if f_X8_has (gN_gone now) (nI k8) = true then (-9 : Int32) else f_X8_choiceOf now village ((f_X8_tellTales tales_away tales_unseenWays tales_seenHouses village now sights_count fits kinds moons places values).2.2.2.2) (nI k8)) (f_X8_cell l1_8 (if f_X8_has (gN_gone now) (nI k8) = true then (-9 : Int32) else f_X8_choiceOf now village ((f_X8_tellTales tales_away tales_unseenWays tales_seenHouses village now sights_count fits kinds moons places values).2.2.2.2) (nI k8)) + 1)) rfl rfl (Nat.le_of_ble_eq_true rfl) ⟨by decide, by decide, by decide, by decide⟩ (fun r w9 hq => ?_)
          obtain ⟨rfl, rfl⟩ := hq
          show V g X 6 w1 0 0 66 [(4, .int (if f_X8_has (gN_gone now) (nI k8) = true then (-9 : Int32) else f_X8_choiceOf now village ((f_X8_tellTales tales_away tales_unseenWays tales_seenHouses village now sights_count fits kinds moons places values).2.2.2.2) (nI k8))), (0, .ref (A 0)), (1, .long l1_8), (3, .int (nI k8))] [.long (f_X8_withCell l1_8 (if f_X8_has (gN_gone now) (nI k8) = true then (-9 : Int32) else f_X8_choiceOf now village ((f_X8_tellTales tales_away tales_unseenWays tales_seenHouses village now sights_count fits kinds moons places values).2.2.2.2) (nI k8)) (f_X8_cell l1_8 (if f_X8_has (gN_gone now) (nI k8) = true then (-9 : Int32) else f_X8_choiceOf now village ((f_X8_tellTales tales_away tales_unseenWays tales_seenHouses village now sights_count fits kinds moons places values).2.2.2.2) (nI k8)) + 1))]
          refine vv_lstore_n (lv2 := [(1, .long (f_X8_withCell l1_8 (if f_X8_has (gN_gone now) (nI k8) = true then (-9 : Int32) else f_X8_choiceOf now village ((f_X8_tellTales tales_away tales_unseenWays tales_seenHouses village now sights_count fits kinds moons places values).2.2.2.2) (nI k8)) (f_X8_cell l1_8 (if f_X8_has (gN_gone now) (nI k8) = true then (-9 : Int32) else f_X8_choiceOf now village ((f_X8_tellTales tales_away tales_unseenWays tales_seenHouses village now sights_count fits kinds moons places values).2.2.2.2) (nI k8)) + 1))), (4, .int (if f_X8_has (gN_gone now) (nI k8) = true then (-9 : Int32) else f_X8_choiceOf now village ((f_X8_tellTales tales_away tales_unseenWays tales_seenHouses village now sights_count fits kinds moons places values).2.2.2.2) (nI k8))), (0, .ref (A 0)), (3, .int (nI k8))]) hC dX8_hanged_66 rfl (by decide) rfl ?_
          refine vv_lv [2, 0, 3, 1] rfl ?_
          have hz := hJ5
          try simp only [f_X8_hanged_x1, if_neg c4] at hz
          first | exact hz | (simp only [f_X8_hanged_x1, if_neg c4]; exact hz)
      refine vv_if_eq hC 38 dX8_hanged_30 (by decide) (fun c2 => ?_) (fun c2 => ?_)
      · have c2 : ¬ (f_X8_has (gN_gone now) (nI k8) = true) := bI_f c2
        refine vv_aload_n hC 0 dX8_hanged_38 rfl rfl ?_
        refine vv_iload_n hC 2 dX8_hanged_39 rfl rfl ?_
        refine vv_callV hC dX8_hanged_40 md_X8_choiceOf lk_m_X8_261 lk_i_X8_choiceOf lk_s_X8_choiceOf h_who rfl (As := [.int (nI k8)]) (rest := []) (c_X8_choiceOf g w1 A hA vi who_keptSlots who_seed now village ((f_X8_tellTales tales_away tales_unseenWays tales_seenHouses village now sights_count fits kinds moons places values).1) ((f_X8_tellTales tales_away tales_unseenWays tales_seenHouses village now sights_count fits kinds moons places values).2.1) ((f_X8_tellTales tales_away tales_unseenWays tales_seenHouses village now sights_count fits kinds moons places values).2.2.1) ((f_X8_tellTales tales_away tales_unseenWays tales_seenHouses village now sights_count fits kinds moons places values).2.2.2.1) ((f_X8_tellTales tales_away tales_unseenWays tales_seenHouses village now sights_count fits kinds moons places values).2.2.2.2) (nI k8) (by omega) (by omega) h_who h_now h_village h_tales h_fits) rfl rfl (Nat.le_of_ble_eq_true rfl) ⟨by decide, by decide, by decide, by decide⟩ (fun r w9 hq => ?_)
        obtain ⟨rfl, rfl⟩ := hq
        show V g X 6 w1 0 0 43 [(0, .ref (A 0)), (1, .long l1_8), (3, .int (nI k8))] [.int (f_X8_choiceOf now village ((f_X8_tellTales tales_away tales_unseenWays tales_seenHouses village now sights_count fits kinds moons places values).2.2.2.2) (nI k8))]
        have hz := hJ3
        try simp only [if_neg c2] at hz
        first | exact hz | (simp only [if_neg c2]; exact hz)
      · have c2 : f_X8_has (gN_gone now) (nI k8) = true := bI_t c2
        refine vv_bipush (v := (-9)) hC dX8_hanged_33 (by decide) ?_
        refine vv_goto hC 43 dX8_hanged_35 (by decide) ?_
        have hz := hJ3
        try simp only [if_pos c2] at hz
        first | exact hz | (simp only [if_pos c2]; exact hz)
  refine vv_lv [2, 1, 0] rfl ?_
  refine hL6 (gVi_people village) 0 0 (f_X8_hanged_L8 tales_away tales_unseenWays tales_seenHouses village now sights_count fits kinds moons places values (gVi_people village) 0 0) (by omega) rfl ?_
  refine vv_bipush (v := (-9)) hC dX8_hanged_73 (by decide) ?_
  refine vv_istore_n (lv2 := [(3, .int (-9)), (0, .ref (A 0)), (1, .long (f_X8_hanged_L8 tales_away tales_unseenWays tales_seenHouses village now sights_count fits kinds moons places values (gVi_people village) 0 0))]) hC dX8_hanged_75 rfl (by decide) rfl ?_
  refine vv_iconst (v := 0) hC dX8_hanged_76 (by decide) ?_
  refine vv_istore (lv2 := [(4, .int 0), (3, .int (-9)), (0, .ref (A 0)), (1, .long (f_X8_hanged_L8 tales_away tales_unseenWays tales_seenHouses village now sights_count fits kinds moons places values (gVi_people village) 0 0))]) hC dX8_hanged_77 (by decide) rfl ?_
  refine vv_iconst (v := 0) hC dX8_hanged_79 (by decide) ?_
  refine vv_istore (lv2 := [(5, .int 0), (4, .int 0), (3, .int (-9)), (0, .ref (A 0)), (1, .long (f_X8_hanged_L8 tales_away tales_unseenWays tales_seenHouses village now sights_count fits kinds moons places values (gVi_people village) 0 0))]) hC dX8_hanged_80 (by decide) rfl ?_
  have hL9 : ∀ (r82 k82 : Nat) (l3_82 : Int32) (l4_82 : Int32) (out : Int32 × Int32), k82 + r82 = gVi_people village → out = f_X8_hanged_L82 tales_away tales_unseenWays tales_seenHouses village now sights_count fits kinds moons places values r82 k82 l3_82 l4_82 → V g X 6 w1 0 0 122 [(0, .ref (A 0)), (1, .long (f_X8_hanged_L8 tales_away tales_unseenWays tales_seenHouses village now sights_count fits kinds moons places values (gVi_people village) 0 0)), (3, .int out.1), (4, .int out.2)] [] → V g X 6 w1 0 0 82 [(0, .ref (A 0)), (1, .long (f_X8_hanged_L8 tales_away tales_unseenWays tales_seenHouses village now sights_count fits kinds moons places values (gVi_people village) 0 0)), (3, .int l3_82), (4, .int l4_82), (5, .int (nI k82))] [] := by
    intro r82
    induction r82 with
    | zero =>
      intro k82 l3_82 l4_82 out hb ho hk
      refine vv_iload hC 4 dX8_hanged_82 rfl ?_
      refine vv_aload_n hC 0 dX8_hanged_84 rfl rfl ?_
      refine vv_get (v := .ref vi) hC fl_X8_19 dX8_hanged_85 h_who rfl ?_
      refine vv_getN (v := .int (nI (gVi_people village))) hC fl_X8_104 dX8_hanged_88 h_village rfl ?_
      refine vv_icmp_ge hC 122 dX8_hanged_91 (by decide) (fun c => ?_) (fun c => False.elim (c ((nI_le_ (a := gVi_people village) (b := k82) (by omega) (by omega)).mpr (by omega))))
      refine vv_lv [0, 1, 2, 3] rfl ?_
      have ho := ho.trans (by first | (simp only [f_X8_hanged_L82]; done) | rfl | (simp only [f_X8_hanged_L82]; rfl) : _ = (l3_82, l4_82))
      subst ho
      exact hk
    | succ r82 ih =>
      intro k82 l3_82 l4_82 out hb ho hk
      refine vv_iload hC 4 dX8_hanged_82 rfl ?_
      refine vv_aload_n hC 0 dX8_hanged_84 rfl rfl ?_
      refine vv_get (v := .ref vi) hC fl_X8_19 dX8_hanged_85 h_who rfl ?_
      refine vv_getN (v := .int (nI (gVi_people village))) hC fl_X8_104 dX8_hanged_88 h_village rfl ?_
      refine vv_icmp_ge hC 122 dX8_hanged_91 (by decide) (fun c => absurd ((nI_le_ (a := gVi_people village) (b := k82) (by omega) (by omega)).mp c) (by first | omega | decide)) (fun c => ?_)
      refine vv_lload_n hC 1 dX8_hanged_94 rfl rfl ?_
      refine vv_iload hC 4 dX8_hanged_95 rfl ?_
      refine vv_callS hC dX8_hanged_97 md_X8_cell lk_m_X8_114 lk_t_X8_cell (As := [.long (f_X8_hanged_L8 tales_away tales_unseenWays tales_seenHouses village now sights_count fits kinds moons places values (gVi_people village) 0 0), .int (nI k82)]) (rest := []) (c_X8_cell g w1 (f_X8_hanged_L8 tales_away tales_unseenWays tales_seenHouses village now sights_count fits kinds moons places values (gVi_people village) 0 0) (nI k82)) rfl rfl (Nat.le_of_ble_eq_true rfl) ⟨by decide, by decide, by decide, by decide⟩ (fun r w9 hq => ?_)
      obtain ⟨rfl, rfl⟩ := hq
      show V g X 6 w1 0 0 100 [(0, .ref (A 0)), (1, .long (f_X8_hanged_L8 tales_away tales_unseenWays tales_seenHouses village now sights_count fits kinds moons places values (gVi_people village) 0 0)), (3, .int l3_82), (4, .int l4_82), (5, .int (nI k82))] [.int (f_X8_cell (f_X8_hanged_L8 tales_away tales_unseenWays tales_seenHouses village now sights_count fits kinds moons places values (gVi_people village) 0 0) (nI k82))]
      refine vv_iload hC 3 dX8_hanged_100 rfl ?_
      have hJ8 : V g X 6 w1 0 0 116 [(0, .ref (A 0)), (1, .long (f_X8_hanged_L8 tales_away tales_unseenWays tales_seenHouses village now sights_count fits kinds moons places values (gVi_people village) 0 0)), (3, .int (if f_X8_cell (f_X8_hanged_L8 tales_away tales_unseenWays tales_seenHouses village now sights_count fits kinds moons places values (gVi_people village) 0 0) (nI k82) ≤ l4_82 then l3_82 else nI k82)), (4, .int (f_X8_hanged_x2 tales_away tales_unseenWays tales_seenHouses village now sights_count fits kinds moons places values k82 l4_82)), (5, .int (nI k82))] [] := by
        refine vv_iinc (lv2 := [(5, .int (nI (k82 + 1))), (0, .ref (A 0)), (1, .long (f_X8_hanged_L8 tales_away tales_unseenWays tales_seenHouses village now sights_count fits kinds moons places values (gVi_people village) 0 0)), (3, .int (if f_X8_cell (f_X8_hanged_L8 tales_away tales_unseenWays tales_seenHouses village now sights_count fits kinds moons places values (gVi_people village) 0 0) (nI k82) ≤ l4_82 then l3_82 else nI k82)), (4, .int (f_X8_hanged_x2 tales_away tales_unseenWays tales_seenHouses village now sights_count fits kinds moons places values k82 l4_82))]) hC 4 dX8_hanged_116 rfl (nI_add k82 1) (by decide) rfl ?_
        refine vv_goto hC 82 dX8_hanged_119 (by decide) ?_
        refine vv_lv [1, 2, 3, 4, 0] rfl ?_
        exact ih (k82 + 1) (if f_X8_cell (f_X8_hanged_L8 tales_away tales_unseenWays tales_seenHouses village now sights_count fits kinds moons places values (gVi_people village) 0 0) (nI k82) ≤ l4_82 then l3_82 else nI k82) (f_X8_hanged_x2 tales_away tales_unseenWays tales_seenHouses village now sights_count fits kinds moons places values k82 l4_82) out (by omega) (ho.trans (by first | (simp only [f_X8_hanged_L82]; done) | rfl | (simp only [f_X8_hanged_L82]; rfl))) hk
      refine vv_icmp_le hC 116 dX8_hanged_102 (by decide) (fun c7 => ?_) (fun c7 => ?_)
      · have c7 : f_X8_cell (f_X8_hanged_L8 tales_away tales_unseenWays tales_seenHouses village now sights_count fits kinds moons places values (gVi_people village) 0 0) (nI k82) ≤ l4_82 := c7
        have hz := hJ8
        try simp only [f_X8_hanged_x2, if_pos c7] at hz
        first | exact hz | (simp only [f_X8_hanged_x2, if_pos c7]; exact hz)
      · have c7 : ¬ (f_X8_cell (f_X8_hanged_L8 tales_away tales_unseenWays tales_seenHouses village now sights_count fits kinds moons places values (gVi_people village) 0 0) (nI k82) ≤ l4_82) := c7
        refine vv_iload hC 4 dX8_hanged_105 rfl ?_
        refine vv_istore_n (lv2 := [(3, .int (nI k82)), (0, .ref (A 0)), (1, .long (f_X8_hanged_L8 tales_away tales_unseenWays tales_seenHouses village now sights_count fits kinds moons places values (gVi_people village) 0 0)), (4, .int l4_82), (5, .int (nI k82))]) hC dX8_hanged_107 rfl (by decide) rfl ?_
        refine vv_lload_n hC 2 dX8_hanged_108 rfl rfl ?_
        refine vv_iload hC 4 dX8_hanged_109 rfl ?_
        refine vv_callS hC dX8_hanged_111 md_X8_cell lk_m_X8_114 lk_t_X8_cell (As := [.long (f_X8_hanged_L8 tales_away tales_unseenWays tales_seenHouses village now sights_count fits kinds moons places values (gVi_people village) 0 0), .int (nI k82)]) (rest := []) (c_X8_cell g w1 (f_X8_hanged_L8 tales_away tales_unseenWays tales_seenHouses village now sights_count fits kinds moons places values (gVi_people village) 0 0) (nI k82)) rfl rfl (Nat.le_of_ble_eq_true rfl) ⟨by decide, by decide, by decide, by decide⟩ (fun r w9 hq => ?_)
        obtain ⟨rfl, rfl⟩ := hq
        show V g X 6 w1 0 0 114 [(3, .int (nI k82)), (0, .ref (A 0)), (1, .long (f_X8_hanged_L8 tales_away tales_unseenWays tales_seenHouses village now sights_count fits kinds moons places values (gVi_people village) 0 0)), (4, .int l4_82), (5, .int (nI k82))] [.int (f_X8_cell (f_X8_hanged_L8 tales_away tales_unseenWays tales_seenHouses village now sights_count fits kinds moons places values (gVi_people village) 0 0) (nI k82))]
        refine vv_istore (lv2 := [(4, .int (f_X8_cell (f_X8_hanged_L8 tales_away tales_unseenWays tales_seenHouses village now sights_count fits kinds moons places values (gVi_people village) 0 0) (nI k82))), (3, .int (nI k82)), (0, .ref (A 0)), (1, .long (f_X8_hanged_L8 tales_away tales_unseenWays tales_seenHouses village now sights_count fits kinds moons places values (gVi_people village) 0 0)), (5, .int (nI k82))]) hC dX8_hanged_114 (by decide) rfl ?_
        refine vv_lv [2, 3, 1, 0, 4] rfl ?_
        have hz := hJ8
        try simp only [f_X8_hanged_x2, if_neg c7] at hz
        first | exact hz | (simp only [f_X8_hanged_x2, if_neg c7]; exact hz)
  refine vv_lv [3, 4, 2, 1, 0] rfl ?_
  refine hL9 (gVi_people village) 0 (-9) 0 (f_X8_hanged_L82 tales_away tales_unseenWays tales_seenHouses village now sights_count fits kinds moons places values (gVi_people village) 0 (-9) 0) (by omega) rfl ?_
  refine vv_iload_n hC 2 dX8_hanged_122 rfl rfl ?_
  have hf : (f_X8_hanged tales_away tales_unseenWays tales_seenHouses village now sights_count fits kinds moons places values) = ((f_X8_hanged_L82 tales_away tales_unseenWays tales_seenHouses village now sights_count fits kinds moons places values (gVi_people village) 0 (-9) 0).1, (f_X8_tellTales tales_away tales_unseenWays tales_seenHouses village now sights_count fits kinds moons places values).1, (f_X8_tellTales tales_away tales_unseenWays tales_seenHouses village now sights_count fits kinds moons places values).2.1, (f_X8_tellTales tales_away tales_unseenWays tales_seenHouses village now sights_count fits kinds moons places values).2.2.1, (f_X8_tellTales tales_away tales_unseenWays tales_seenHouses village now sights_count fits kinds moons places values).2.2.2.1, (f_X8_tellTales tales_away tales_unseenWays tales_seenHouses village now sights_count fits kinds moons places values).2.2.2.2) := by first | (simp only [f_X8_hanged]; done) | rfl | (simp only [f_X8_hanged]; rfl)
  refine vv_iret hC hR rfl dX8_hanged_123 (by omega) (by omega) ?_
  rw [hf]
  try dsimp only
  exact ⟨rfl, h_tales, h_fits, hE⟩
def f_X8_lockedIn_L30 (now : TN) (village : TVi) (p1 : Int32) (p2 : Int32) : Nat → Nat → Bool
  | 0, k30 => true
  | r30 + 1, k30 => (if f_X8_has p1 (nI k30) = true then (if f_X8_has (gN_barred now ||| p2) (f_X8_cell (gVi_homes village) (nI k30)) = true then f_X8_lockedIn_L30 now village p1 p2 r30 (k30 + 1) else (if (f_X8_cell (gVi_paths village) (f_X8_cell (gVi_homes village) (nI k30)) &&& (f_X2_openHouses now village &&& (p2 ^^^ (-1)))) = 0 then f_X8_lockedIn_L30 now village p1 p2 r30 (k30 + 1) else false)) else f_X8_lockedIn_L30 now village p1 p2 r30 (k30 + 1))
def f_X8_lockedIn (now : TN) (village : TVi) (p1 : Int32) (p2 : Int32) : Bool := f_X8_lockedIn_L30 now village p1 p2 (gVi_people village) 0
set_option maxHeartbeats 4000000 in
set_option maxRecDepth 100000 in
theorem c_X8_lockedIn (g : GT) (w0 : Wd) (A : Nat → Nat) (hA : ∀ i j, i < 60 → j < 60 → A i = A j → i = j) (vi : Nat) (who_keptSlots : Int32) (who_seed : Int64) (now : TN) (village : TVi) (p1 : Int32) (p2 : Int32) (hvh : gVi_houses village ≤ 4) (hvp : gVi_people village ≤ 6) (h_who : w0 (A 0) = some (.inr (8, cWh A vi (who_keptSlots, who_seed)))) (h_now : w0 (A 3) = some (.inr (2, cN now))) (h_village : w0 vi = some (.inr (7, cVi village))) : CT g yX8_lockedIn cX8_lockedIn 7 (some .boolean) 2 41 0 0 w0 [.ref (A 0), .int p1, .int p2] (fun r w2 => r = some (.int (bI (f_X8_lockedIn now village p1 p2))) ∧ w0 = w2) := by
  refine CT.of (own := RX8) (by decide +kernel) rfl (Nat.le_of_ble_eq_true rfl) (fun X hC hR hI => ?_)
  show V g X 7 w0 0 0 0 [(0, .ref (A 0)), (1, .int p1), (2, .int p2)] []
  refine vv_aload_n hC 0 dX8_lockedIn_0 rfl rfl ?_
  refine vv_get (v := .ref (A 3)) hC fl_X8_26 dX8_lockedIn_1 h_who rfl ?_
  refine vv_getN (v := .int (gN_barred now)) hC fl_X8_316 dX8_lockedIn_4 h_now rfl ?_
  refine vv_iload_n hC 2 dX8_lockedIn_7 rfl rfl ?_
  refine vv_ior hC dX8_lockedIn_8 ?_
  refine vv_istore_n (lv2 := [(3, .int (gN_barred now ||| p2)), (0, .ref (A 0)), (1, .int p1), (2, .int p2)]) hC dX8_lockedIn_9 rfl (by decide) rfl ?_
  refine vv_aload_n hC 1 dX8_lockedIn_10 rfl rfl ?_
  refine vv_get (v := .ref (A 3)) hC fl_X8_26 dX8_lockedIn_11 h_who rfl ?_
  refine vv_aload_n hC 1 dX8_lockedIn_14 rfl rfl ?_
  refine vv_get (v := .ref vi) hC fl_X8_19 dX8_lockedIn_15 h_who rfl ?_
  refine vv_callV hC dX8_lockedIn_18 md_X2_openHouses lk_m_X8_306 lk_i_X2_openHouses lk_s_X2_openHouses h_now rfl (As := [.ref vi]) (rest := []) (c_X2_openHouses g w0 (A 3) vi now village h_now h_village) rfl rfl (Nat.le_of_ble_eq_true rfl) ⟨by decide, by decide, by decide, by decide⟩ (fun r w9 hq => ?_)
  obtain ⟨rfl, rfl⟩ := hq
  show V g X 7 w0 0 0 21 [(3, .int (gN_barred now ||| p2)), (0, .ref (A 0)), (1, .int p1), (2, .int p2)] [.int (f_X2_openHouses now village)]
  refine vv_iload_n hC 3 dX8_lockedIn_21 rfl rfl ?_
  refine vv_iconst (v := (-1)) hC dX8_lockedIn_22 (by decide) ?_
  refine vv_ixor hC dX8_lockedIn_23 ?_
  refine vv_iand hC dX8_lockedIn_24 ?_
  refine vv_istore (lv2 := [(4, .int (f_X2_openHouses now village &&& (p2 ^^^ (-1)))), (3, .int (gN_barred now ||| p2)), (0, .ref (A 0)), (1, .int p1), (2, .int p2)]) hC dX8_lockedIn_25 (by decide) rfl ?_
  refine vv_iconst (v := 0) hC dX8_lockedIn_27 (by decide) ?_
  refine vv_istore (lv2 := [(5, .int 0), (4, .int (f_X2_openHouses now village &&& (p2 ^^^ (-1)))), (3, .int (gN_barred now ||| p2)), (0, .ref (A 0)), (1, .int p1), (2, .int p2)]) hC dX8_lockedIn_28 (by decide) rfl ?_
  have hL4 : ∀ (r30 k30 : Nat), k30 + r30 = gVi_people village → (f_X8_lockedIn now village p1 p2) = f_X8_lockedIn_L30 now village p1 p2 r30 k30 → V g X 7 w0 0 0 30 [(0, .ref (A 0)), (1, .int p1), (2, .int p2), (3, .int (gN_barred now ||| p2)), (4, .int (f_X2_openHouses now village &&& (p2 ^^^ (-1)))), (5, .int (nI k30))] [] := by
    intro r30
    induction r30 with
    | zero =>
      intro k30 hb ho 
      refine vv_iload hC 5 dX8_lockedIn_30 rfl ?_
      refine vv_aload_n hC 0 dX8_lockedIn_32 rfl rfl ?_
      refine vv_get (v := .ref vi) hC fl_X8_19 dX8_lockedIn_33 h_who rfl ?_
      refine vv_getN (v := .int (nI (gVi_people village))) hC fl_X8_104 dX8_lockedIn_36 h_village rfl ?_
      refine vv_icmp_ge hC 100 dX8_lockedIn_39 (by decide) (fun c => ?_) (fun c => False.elim (c ((nI_le_ (a := gVi_people village) (b := k30) (by omega) (by omega)).mpr (by omega))))
      refine vv_iconst (v := 1) hC dX8_lockedIn_100 (by decide) ?_
      have hf : (f_X8_lockedIn now village p1 p2) = true := ho.trans (by first | (simp only [f_X8_lockedIn_L30]; done) | rfl | (simp only [f_X8_lockedIn_L30]; rfl))
      refine vv_zret hC hR rfl (by decide) dX8_lockedIn_101 (by omega) (by omega) ?_
      rw [hf]
      exact ⟨rfl, rfl⟩
    | succ r30 ih =>
      intro k30 hb ho 
      refine vv_iload hC 5 dX8_lockedIn_30 rfl ?_
      refine vv_aload_n hC 0 dX8_lockedIn_32 rfl rfl ?_
      refine vv_get (v := .ref vi) hC fl_X8_19 dX8_lockedIn_33 h_who rfl ?_
      refine vv_getN (v := .int (nI (gVi_people village))) hC fl_X8_104 dX8_lockedIn_36 h_village rfl ?_
      refine vv_icmp_ge hC 100 dX8_lockedIn_39 (by decide) (fun c => absurd ((nI_le_ (a := gVi_people village) (b := k30) (by omega) (by omega)).mp c) (by first | omega | decide)) (fun c => ?_)
      refine vv_aload_n hC 0 dX8_lockedIn_42 rfl rfl ?_
      refine vv_get (v := .ref vi) hC fl_X8_19 dX8_lockedIn_43 h_who rfl ?_
      refine vv_getN (v := .long (gVi_homes village)) hC fl_X8_137 dX8_lockedIn_46 h_village rfl ?_
      refine vv_iload hC 5 dX8_lockedIn_49 rfl ?_
      refine vv_callS hC dX8_lockedIn_51 md_X8_cell lk_m_X8_114 lk_t_X8_cell (As := [.long (gVi_homes village), .int (nI k30)]) (rest := []) (c_X8_cell g w0 (gVi_homes village) (nI k30)) rfl rfl (Nat.le_of_ble_eq_true rfl) ⟨by decide, by decide, by decide, by decide⟩ (fun r w9 hq => ?_)
      obtain ⟨rfl, rfl⟩ := hq
      show V g X 7 w0 0 0 54 [(0, .ref (A 0)), (1, .int p1), (2, .int p2), (3, .int (gN_barred now ||| p2)), (4, .int (f_X2_openHouses now village &&& (p2 ^^^ (-1)))), (5, .int (nI k30))] [.int (f_X8_cell (gVi_homes village) (nI k30))]
      refine vv_istore (lv2 := [(6, .int (f_X8_cell (gVi_homes village) (nI k30))), (0, .ref (A 0)), (1, .int p1), (2, .int p2), (3, .int (gN_barred now ||| p2)), (4, .int (f_X2_openHouses now village &&& (p2 ^^^ (-1)))), (5, .int (nI k30))]) hC dX8_lockedIn_54 (by decide) rfl ?_
      refine vv_iload_n hC 2 dX8_lockedIn_56 rfl rfl ?_
      refine vv_iload hC 6 dX8_lockedIn_57 rfl ?_
      refine vv_callS hC dX8_lockedIn_59 md_X8_has lk_m_X8_166 lk_t_X8_has (As := [.int p1, .int (nI k30)]) (rest := []) (c_X8_has g w0 p1 (nI k30)) rfl rfl (Nat.le_of_ble_eq_true rfl) ⟨by decide, by decide, by decide, by decide⟩ (fun r w9 hq => ?_)
      obtain ⟨rfl, rfl⟩ := hq
      show V g X 7 w0 0 0 62 [(6, .int (f_X8_cell (gVi_homes village) (nI k30))), (0, .ref (A 0)), (1, .int p1), (2, .int p2), (3, .int (gN_barred now ||| p2)), (4, .int (f_X2_openHouses now village &&& (p2 ^^^ (-1)))), (5, .int (nI k30))] [.int (bI (f_X8_has p1 (nI k30)))]
      refine vv_if_eq hC 94 dX8_lockedIn_62 (by decide) (fun c1 => ?_) (fun c1 => ?_)
      · have c1 : ¬ (f_X8_has p1 (nI k30) = true) := bI_f c1
        refine vv_iinc (lv2 := [(5, .int (nI (k30 + 1))), (6, .int (f_X8_cell (gVi_homes village) (nI k30))), (0, .ref (A 0)), (1, .int p1), (2, .int p2), (3, .int (gN_barred now ||| p2)), (4, .int (f_X2_openHouses now village &&& (p2 ^^^ (-1))))]) hC 6 dX8_lockedIn_94 rfl (nI_add k30 1) (by decide) rfl ?_
        refine vv_goto hC 30 dX8_lockedIn_97 (by decide) ?_
        refine vv_lv [2, 3, 4, 5, 6, 0] rfl ?_
        exact ih (k30 + 1) (by omega) (ho.trans (by first | (simp only [f_X8_lockedIn_L30, if_neg c1]; done) | rfl | (simp only [f_X8_lockedIn_L30, if_neg c1]; rfl)))
      · have c1 : f_X8_has p1 (nI k30) = true := bI_t c1
        refine vv_iload_n hC 4 dX8_lockedIn_65 rfl rfl ?_
        refine vv_iload hC 0 dX8_lockedIn_66 rfl ?_
        refine vv_callS hC dX8_lockedIn_68 md_X8_has lk_m_X8_166 lk_t_X8_has (As := [.int (gN_barred now ||| p2), .int (f_X8_cell (gVi_homes village) (nI k30))]) (rest := []) (c_X8_has g w0 (gN_barred now ||| p2) (f_X8_cell (gVi_homes village) (nI k30))) rfl rfl (Nat.le_of_ble_eq_true rfl) ⟨by decide, by decide, by decide, by decide⟩ (fun r w9 hq => ?_)
        obtain ⟨rfl, rfl⟩ := hq
        show V g X 7 w0 0 0 71 [(6, .int (f_X8_cell (gVi_homes village) (nI k30))), (0, .ref (A 0)), (1, .int p1), (2, .int p2), (3, .int (gN_barred now ||| p2)), (4, .int (f_X2_openHouses now village &&& (p2 ^^^ (-1)))), (5, .int (nI k30))] [.int (bI (f_X8_has (gN_barred now ||| p2) (f_X8_cell (gVi_homes village) (nI k30))))]
        refine vv_if_ne hC 94 dX8_lockedIn_71 (by decide) (fun c2 => ?_) (fun c2 => ?_)
        · have c2 : f_X8_has (gN_barred now ||| p2) (f_X8_cell (gVi_homes village) (nI k30)) = true := bI_t c2
          refine vv_iinc (lv2 := [(5, .int (nI (k30 + 1))), (6, .int (f_X8_cell (gVi_homes village) (nI k30))), (0, .ref (A 0)), (1, .int p1), (2, .int p2), (3, .int (gN_barred now ||| p2)), (4, .int (f_X2_openHouses now village &&& (p2 ^^^ (-1))))]) hC 6 dX8_lockedIn_94 rfl (nI_add k30 1) (by decide) rfl ?_
          refine vv_goto hC 30 dX8_lockedIn_97 (by decide) ?_
          refine vv_lv [2, 3, 4, 5, 6, 0] rfl ?_
          exact ih (k30 + 1) (by omega) (ho.trans (by first | (simp only [f_X8_lockedIn_L30, if_pos c1, if_pos c2]; done) | rfl | (simp only [f_X8_lockedIn_L30, if_pos c1, if_pos c2]; rfl)))
        · have c2 : ¬ (f_X8_has (gN_barred now ||| p2) (f_X8_cell (gVi_homes village) (nI k30)) = true) := bI_f c2
          refine vv_aload_n hC 1 dX8_lockedIn_74 rfl rfl ?_
          refine vv_get (v := .ref vi) hC fl_X8_19 dX8_lockedIn_75 h_who rfl ?_
          refine vv_getN (v := .long (gVi_paths village)) hC fl_X8_128 dX8_lockedIn_78 h_village rfl ?_
          refine vv_iload hC 0 dX8_lockedIn_81 rfl ?_
          refine vv_callS hC dX8_lockedIn_83 md_X8_cell lk_m_X8_114 lk_t_X8_cell (As := [.long (gVi_paths village), .int (f_X8_cell (gVi_homes village) (nI k30))]) (rest := []) (c_X8_cell g w0 (gVi_paths village) (f_X8_cell (gVi_homes village) (nI k30))) rfl rfl (Nat.le_of_ble_eq_true rfl) ⟨by decide, by decide, by decide, by decide⟩ (fun r w9 hq => ?_)
          obtain ⟨rfl, rfl⟩ := hq
          show V g X 7 w0 0 0 86 [(6, .int (f_X8_cell (gVi_homes village) (nI k30))), (0, .ref (A 0)), (1, .int p1), (2, .int p2), (3, .int (gN_barred now ||| p2)), (4, .int (f_X2_openHouses now village &&& (p2 ^^^ (-1)))), (5, .int (nI k30))] [.int (f_X8_cell (gVi_paths village) (f_X8_cell (gVi_homes village) (nI k30)))]
          refine vv_iload hC 5 dX8_lockedIn_86 rfl ?_
          refine vv_iand hC dX8_lockedIn_88 ?_
          refine vv_if_eq hC 94 dX8_lockedIn_89 (by decide) (fun c3 => ?_) (fun c3 => ?_)
          · have c3 : (f_X8_cell (gVi_paths village) (f_X8_cell (gVi_homes village) (nI k30)) &&& (f_X2_openHouses now village &&& (p2 ^^^ (-1)))) = 0 := c3
            refine vv_iinc (lv2 := [(5, .int (nI (k30 + 1))), (6, .int (f_X8_cell (gVi_homes village) (nI k30))), (0, .ref (A 0)), (1, .int p1), (2, .int p2), (3, .int (gN_barred now ||| p2)), (4, .int (f_X2_openHouses now village &&& (p2 ^^^ (-1))))]) hC 6 dX8_lockedIn_94 rfl (nI_add k30 1) (by decide) rfl ?_
            refine vv_goto hC 30 dX8_lockedIn_97 (by decide) ?_
            refine vv_lv [2, 3, 4, 5, 6, 0] rfl ?_
            exact ih (k30 + 1) (by omega) (ho.trans (by first | (simp only [f_X8_lockedIn_L30, if_pos c1, if_neg c2, if_pos c3]; done) | rfl | (simp only [f_X8_lockedIn_L30, if_pos c1, if_neg c2, if_pos c3]; rfl)))
          · have c3 : ¬ ((f_X8_cell (gVi_paths village) (f_X8_cell (gVi_homes village) (nI k30)) &&& (f_X2_openHouses now village &&& (p2 ^^^ (-1)))) = 0) := c3
            refine vv_iconst (v := 0) hC dX8_lockedIn_92 (by decide) ?_
            have hf : (f_X8_lockedIn now village p1 p2) = false := ho.trans (by first | (simp only [f_X8_lockedIn_L30, if_pos c1, if_neg c2, if_neg c3]; done) | rfl | (simp only [f_X8_lockedIn_L30, if_pos c1, if_neg c2, if_neg c3]; rfl))
            refine vv_zret hC hR rfl (by decide) dX8_lockedIn_93 (by omega) (by omega) ?_
            rw [hf]
            exact ⟨rfl, rfl⟩
  refine vv_lv [3, 4, 5, 2, 1, 0] rfl ?_
  exact hL4 (gVi_people village) 0 (by omega) (by first | (simp only [f_X8_lockedIn]; done) | rfl | (simp only [f_X8_lockedIn]; rfl))
def f_X8_locked_x1 (tales_away : Int32) (tales_unseenWays : Int64) (tales_seenHouses : Int64) (village : TVi) (now : TN) (sights_count : Nat) (fits : Nat → Int64) (kinds : Nat → Int32) (moons : Nat → Int32) (places : Nat → Int32) (values : Nat → Int32) (k25 : Nat) (l2_25 : Int32) : Int32 := (if f_J6_bitCount_0f7a4 l2_25 ≤ f_J6_bitCount_0f7a4 (nI k25) then l2_25 else (if f_X8_lockedIn now village (f_X5_inSome ((f_X8_tellTales tales_away tales_unseenWays tales_seenHouses village now sights_count fits kinds moons places values).2.2.2.2)) (nI k25) = true then nI k25 else l2_25))
def f_X8_locked_L25 (tales_away : Int32) (tales_unseenWays : Int64) (tales_seenHouses : Int64) (village : TVi) (now : TN) (sights_count : Nat) (fits : Nat → Int64) (kinds : Nat → Int32) (moons : Nat → Int32) (places : Nat → Int32) (values : Nat → Int32) : Nat → Nat → Int32 → Int32
  | 0, k25, l2_25 => l2_25
  | r25 + 1, k25, l2_25 => (if f_X8_below (nI (gVi_houses village)) < nI k25 then l2_25 else f_X8_locked_L25 tales_away tales_unseenWays tales_seenHouses village now sights_count fits kinds moons places values r25 (k25 + 1) (f_X8_locked_x1 tales_away tales_unseenWays tales_seenHouses village now sights_count fits kinds moons places values k25 l2_25))
def f_X8_locked (tales_away : Int32) (tales_unseenWays : Int64) (tales_seenHouses : Int64) (village : TVi) (now : TN) (sights_count : Nat) (fits : Nat → Int64) (kinds : Nat → Int32) (moons : Nat → Int32) (places : Nat → Int32) (values : Nat → Int32) : Int32 × Nat × Int32 × Int64 × Int64 × (Nat → Int64) := ((f_X8_locked_L25 tales_away tales_unseenWays tales_seenHouses village now sights_count fits kinds moons places values 16 0 (f_X8_below (nI (gVi_houses village)))), (f_X8_tellTales tales_away tales_unseenWays tales_seenHouses village now sights_count fits kinds moons places values).1, (f_X8_tellTales tales_away tales_unseenWays tales_seenHouses village now sights_count fits kinds moons places values).2.1, (f_X8_tellTales tales_away tales_unseenWays tales_seenHouses village now sights_count fits kinds moons places values).2.2.1, (f_X8_tellTales tales_away tales_unseenWays tales_seenHouses village now sights_count fits kinds moons places values).2.2.2.1, (f_X8_tellTales tales_away tales_unseenWays tales_seenHouses village now sights_count fits kinds moons places values).2.2.2.2)
set_option maxHeartbeats 4000000 in
set_option maxRecDepth 100000 in
theorem c_X8_locked (g : GT) (w0 : Wd) (A : Nat → Nat) (hA : ∀ i j, i < 60 → j < 60 → A i = A j → i = j) (vi : Nat) (who_keptSlots : Int32) (who_seed : Int64) (tales_people : Nat) (tales_away : Int32) (tales_unseenWays : Int64) (tales_seenHouses : Int64) (village : TVi) (now : TN) (sights_count : Nat) (fits : Nat → Int64) (kinds : Nat → Int32) (moons : Nat → Int32) (places : Nat → Int32) (values : Nat → Int32) (hvh : gVi_houses village ≤ 4) (hvp : gVi_people village ≤ 6) (hsc : sights_count ≤ 6) (h_who : w0 (A 0) = some (.inr (8, cWh A vi (who_keptSlots, who_seed)))) (h_tales : w0 (A 13) = some (.inr (5, cTa (A 14) (A 15) (A 16) (tales_people, tales_away, tales_unseenWays, tales_seenHouses)))) (h_village : w0 vi = some (.inr (7, cVi village))) (h_now : w0 (A 3) = some (.inr (2, cN now))) (h_sights : w0 (A 8) = some (.inr (4, cSi (A 9) (A 10) (A 11) (A 12) sights_count))) (h_fits : w0 (A 14) = some (.inl (g.2.2.1 1, 64, .inr (.inl fits)))) (h_kinds : w0 (A 9) = some (.inl (g.2.2.1 0, 6, .inl kinds))) (h_moons : w0 (A 10) = some (.inl (g.2.2.1 0, 6, .inl moons))) (h_places : w0 (A 11) = some (.inl (g.2.2.1 0, 6, .inl places))) (h_values : w0 (A 12) = some (.inl (g.2.2.1 0, 6, .inl values))) : CT g yX8_locked cX8_locked 4 (some .int) 9 258 0 0 w0 [.ref (A 0)] (fun r w2 => r = some (.int ((f_X8_locked tales_away tales_unseenWays tales_seenHouses village now sights_count fits kinds moons places values).1)) ∧ w2 (A 13) = some (.inr (5, cTa (A 14) (A 15) (A 16) ((f_X8_locked tales_away tales_unseenWays tales_seenHouses village now sights_count fits kinds moons places values).2.1, (f_X8_locked tales_away tales_unseenWays tales_seenHouses village now sights_count fits kinds moons places values).2.2.1, (f_X8_locked tales_away tales_unseenWays tales_seenHouses village now sights_count fits kinds moons places values).2.2.2.1, (f_X8_locked tales_away tales_unseenWays tales_seenHouses village now sights_count fits kinds moons places values).2.2.2.2.1))) ∧ w2 (A 14) = some (.inl (g.2.2.1 1, 64, .inr (.inl ((f_X8_locked tales_away tales_unseenWays tales_seenHouses village now sights_count fits kinds moons places values).2.2.2.2.2)))) ∧ wE (fun q => q = (A 13) ∨ q = (A 14)) w0 w2) := by
  refine CT.of (own := RX8) (by decide +kernel) rfl (Nat.le_of_ble_eq_true rfl) (fun X hC hR hI => ?_)
  show V g X 4 w0 0 0 0 [(0, .ref (A 0))] []
  have hE : wE (fun q => q = (A 13) ∨ q = (A 14)) w0 w0 := wE.refl
  refine vv_aload_n hC 0 dX8_locked_0 rfl rfl ?_
  refine vv_callV hC dX8_locked_1 md_X8_tellTales lk_m_X8_220 lk_i_X8_tellTales lk_s_X8_tellTales h_who rfl (As := []) (rest := []) (c_X8_tellTales g w0 A hA vi who_keptSlots who_seed tales_people tales_away tales_unseenWays tales_seenHouses village now sights_count fits kinds moons places values (by omega) (by omega) (by omega) h_who h_tales h_village h_now h_sights h_fits h_kinds h_moons h_places h_values) rfl rfl (Nat.le_of_ble_eq_true rfl) ⟨by decide, by decide, by decide, by decide⟩ (fun r w9 hq => ?_)
  obtain ⟨rfl, t1, t2, hs⟩ := hq
  obtain ⟨w1, rfl⟩ : ∃ z, z = w9 := ⟨_, rfl⟩
  have h_who := hs _ _ (fun z => z.elim (fw_oo h_who h_tales (by decide)) (fw_oa h_who h_fits)) h_who
  have h_village := hs _ _ (fun z => z.elim (fw_oo h_village h_tales (by decide)) (fw_oa h_village h_fits)) h_village
  have h_now := hs _ _ (fun z => z.elim (fw_oo h_now h_tales (by decide)) (fw_oa h_now h_fits)) h_now
  have h_sights := hs _ _ (fun z => z.elim (fw_oo h_sights h_tales (by decide)) (fw_oa h_sights h_fits)) h_sights
  have h_kinds := hs _ _ (fun z => z.elim (fw_ao h_kinds h_tales) (fw_inj hA (by decide) (by decide) (by decide))) h_kinds
  have h_moons := hs _ _ (fun z => z.elim (fw_ao h_moons h_tales) (fw_inj hA (by decide) (by decide) (by decide))) h_moons
  have h_places := hs _ _ (fun z => z.elim (fw_ao h_places h_tales) (fw_inj hA (by decide) (by decide) (by decide))) h_places
  have h_values := hs _ _ (fun z => z.elim (fw_ao h_values h_tales) (fw_inj hA (by decide) (by decide) (by decide))) h_values
  have h_tales := t1
  have h_fits := t2
  have hE := hE.trans (hs.mono (fun _ z => z.elim (fun z => (Or.inl z)) (fun z => (Or.inr z))))
  show V g X 4 w1 0 0 4 [(0, .ref (A 0))] []
  refine vv_aload_n hC 0 dX8_locked_4 rfl rfl ?_
  refine vv_get (v := .ref (A 13)) hC fl_X8_58 dX8_locked_5 h_who rfl ?_
  refine vv_callV hC dX8_locked_8 md_X5_inSome lk_m_X8_240 lk_i_X5_inSome lk_s_X5_inSome h_tales rfl (As := []) (rest := []) (c_X5_inSome g w1 (A 13) (A 14) (A 15) (A 16) ((f_X8_tellTales tales_away tales_unseenWays tales_seenHouses village now sights_count fits kinds moons places values).1) ((f_X8_tellTales tales_away tales_unseenWays tales_seenHouses village now sights_count fits kinds moons places values).2.1) ((f_X8_tellTales tales_away tales_unseenWays tales_seenHouses village now sights_count fits kinds moons places values).2.2.1) ((f_X8_tellTales tales_away tales_unseenWays tales_seenHouses village now sights_count fits kinds moons places values).2.2.2.1) ((f_X8_tellTales tales_away tales_unseenWays tales_seenHouses village now sights_count fits kinds moons places values).2.2.2.2) h_tales h_fits) rfl rfl (Nat.le_of_ble_eq_true rfl) ⟨by decide, by decide, by decide, by decide⟩ (fun r w9 hq => ?_)
  obtain ⟨rfl, rfl⟩ := hq
  show V g X 4 w1 0 0 11 [(0, .ref (A 0))] [.int (f_X5_inSome ((f_X8_tellTales tales_away tales_unseenWays tales_seenHouses village now sights_count fits kinds moons places values).2.2.2.2))]
  refine vv_istore_n (lv2 := [(1, .int (f_X5_inSome ((f_X8_tellTales tales_away tales_unseenWays tales_seenHouses village now sights_count fits kinds moons places values).2.2.2.2))), (0, .ref (A 0))]) hC dX8_locked_11 rfl (by decide) rfl ?_
  refine vv_aload_n hC 1 dX8_locked_12 rfl rfl ?_
  refine vv_get (v := .ref vi) hC fl_X8_19 dX8_locked_13 h_who rfl ?_
  refine vv_getN (v := .int (nI (gVi_houses village))) hC fl_X8_101 dX8_locked_16 h_village rfl ?_
  refine vv_callS hC dX8_locked_19 md_X8_below lk_m_X8_271 lk_t_X8_below (As := [.int (nI (gVi_houses village))]) (rest := []) (c_X8_below g w1 (nI (gVi_houses village))) rfl rfl (Nat.le_of_ble_eq_true rfl) ⟨by decide, by decide, by decide, by decide⟩ (fun r w9 hq => ?_)
  obtain ⟨rfl, rfl⟩ := hq
  show V g X 4 w1 0 0 22 [(1, .int (f_X5_inSome ((f_X8_tellTales tales_away tales_unseenWays tales_seenHouses village now sights_count fits kinds moons places values).2.2.2.2))), (0, .ref (A 0))] [.int (f_X8_below (nI (gVi_houses village)))]
  refine vv_istore_n (lv2 := [(2, .int (f_X8_below (nI (gVi_houses village)))), (1, .int (f_X5_inSome ((f_X8_tellTales tales_away tales_unseenWays tales_seenHouses village now sights_count fits kinds moons places values).2.2.2.2))), (0, .ref (A 0))]) hC dX8_locked_22 rfl (by decide) rfl ?_
  refine vv_iconst (v := 0) hC dX8_locked_23 (by decide) ?_
  refine vv_istore_n (lv2 := [(3, .int 0), (2, .int (f_X8_below (nI (gVi_houses village)))), (1, .int (f_X5_inSome ((f_X8_tellTales tales_away tales_unseenWays tales_seenHouses village now sights_count fits kinds moons places values).2.2.2.2))), (0, .ref (A 0))]) hC dX8_locked_24 rfl (by decide) rfl ?_
  have hL6 : ∀ (r25 k25 : Nat) (l2_25 : Int32) (out : Int32), k25 + r25 = 16 → out = f_X8_locked_L25 tales_away tales_unseenWays tales_seenHouses village now sights_count fits kinds moons places values r25 k25 l2_25 → V g X 4 w1 0 0 73 [(0, .ref (A 0)), (1, .int (f_X5_inSome ((f_X8_tellTales tales_away tales_unseenWays tales_seenHouses village now sights_count fits kinds moons places values).2.2.2.2))), (2, .int out)] [] → V g X 4 w1 0 0 25 [(0, .ref (A 0)), (1, .int (f_X5_inSome ((f_X8_tellTales tales_away tales_unseenWays tales_seenHouses village now sights_count fits kinds moons places values).2.2.2.2))), (2, .int l2_25), (3, .int (nI k25))] [] := by
    intro r25
    induction r25 with
    | zero =>
      intro k25 l2_25 out hb ho hk
      refine vv_iload_n hC 3 dX8_locked_25 rfl rfl ?_
      refine vv_bipush (v := (16)) hC dX8_locked_26 (by decide) ?_
      refine vv_icmp_ge hC 73 dX8_locked_28 (by decide) (fun c => ?_) (fun c => False.elim (c ((nI_le_ (a := 16) (b := k25) (by omega) (by omega)).mpr (by omega))))
      refine vv_lv [0, 1, 2] rfl ?_
      have ho := ho.trans (by first | (simp only [f_X8_locked_L25]; done) | rfl | (simp only [f_X8_locked_L25]; rfl) : _ = l2_25)
      subst ho
      exact hk
    | succ r25 ih =>
      intro k25 l2_25 out hb ho hk
      refine vv_iload_n hC 3 dX8_locked_25 rfl rfl ?_
      refine vv_bipush (v := (16)) hC dX8_locked_26 (by decide) ?_
      refine vv_icmp_ge hC 73 dX8_locked_28 (by decide) (fun c => absurd ((nI_le_ (a := 16) (b := k25) (by omega) (by omega)).mp c) (by first | omega | decide)) (fun c => ?_)
      refine vv_iload_n hC 3 dX8_locked_31 rfl rfl ?_
      refine vv_aload_n hC 0 dX8_locked_32 rfl rfl ?_
      refine vv_get (v := .ref vi) hC fl_X8_19 dX8_locked_33 h_who rfl ?_
      refine vv_getN (v := .int (nI (gVi_houses village))) hC fl_X8_101 dX8_locked_36 h_village rfl ?_
      refine vv_callS hC dX8_locked_39 md_X8_below lk_m_X8_271 lk_t_X8_below (As := [.int (nI (gVi_houses village))]) (rest := [.int (nI k25)]) (c_X8_below g w1 (nI (gVi_houses village))) rfl rfl (Nat.le_of_ble_eq_true rfl) ⟨by decide, by decide, by decide, by decide⟩ (fun r w9 hq => ?_)
      obtain ⟨rfl, rfl⟩ := hq
      show V g X 4 w1 0 0 42 [(0, .ref (A 0)), (1, .int (f_X5_inSome ((f_X8_tellTales tales_away tales_unseenWays tales_seenHouses village now sights_count fits kinds moons places values).2.2.2.2))), (2, .int l2_25), (3, .int (nI k25))] [.int (f_X8_below (nI (gVi_houses village))), .int (nI k25)]
      refine vv_icmp_gt hC 73 dX8_locked_42 (by decide) (fun c2 => ?_) (fun c2 => ?_)
      · have c2 : f_X8_below (nI (gVi_houses village)) < nI k25 := c2
        refine vv_lv [0, 1, 2] rfl ?_
        have ho := ho.trans (by first | (simp only [f_X8_locked_L25, if_pos c2]; done) | rfl | (simp only [f_X8_locked_L25, if_pos c2]; rfl) : _ = l2_25)
        subst ho
        exact hk
      · have c2 : ¬ (f_X8_below (nI (gVi_houses village)) < nI k25) := c2
        refine vv_iload_n hC 3 dX8_locked_45 rfl rfl ?_
        refine vv_callS hC dX8_locked_46 md_J6_bitCount_0f7a4 lk_m_X8_274 lk_t_J6_bitCount_0f7a4 (As := [.int (nI k25)]) (rest := []) (c_J6_bitCount_0f7a4 g w1 (nI k25)) rfl rfl (Nat.le_of_ble_eq_true rfl) ⟨by decide, by decide, by decide, by decide⟩ (fun r w9 hq => ?_)
        obtain ⟨rfl, rfl⟩ := hq
        show V g X 4 w1 0 0 49 [(0, .ref (A 0)), (1, .int (f_X5_inSome ((f_X8_tellTales tales_away tales_unseenWays tales_seenHouses village now sights_count fits kinds moons places values).2.2.2.2))), (2, .int l2_25), (3, .int (nI k25))] [.int (f_J6_bitCount_0f7a4 (nI k25))]
        refine vv_iload_n hC 2 dX8_locked_49 rfl rfl ?_
        refine vv_callS hC dX8_locked_50 md_J6_bitCount_0f7a4 lk_m_X8_274 lk_t_J6_bitCount_0f7a4 (As := [.int l2_25]) (rest := [.int (f_J6_bitCount_0f7a4 (nI k25))]) (c_J6_bitCount_0f7a4 g w1 l2_25) rfl rfl (Nat.le_of_ble_eq_true rfl) ⟨by decide, by decide, by decide, by decide⟩ (fun r w9 hq => ?_)
        obtain ⟨rfl, rfl⟩ := hq
        show V g X 4 w1 0 0 53 [(0, .ref (A 0)), (1, .int (f_X5_inSome ((f_X8_tellTales tales_away tales_unseenWays tales_seenHouses village now sights_count fits kinds moons places values).2.2.2.2))), (2, .int l2_25), (3, .int (nI k25))] [.int (f_J6_bitCount_0f7a4 l2_25), .int (f_J6_bitCount_0f7a4 (nI k25))]
        have hJ4 : V g X 4 w1 0 0 67 [(0, .ref (A 0)), (1, .int (f_X5_inSome ((f_X8_tellTales tales_away tales_unseenWays tales_seenHouses village now sights_count fits kinds moons places values).2.2.2.2))), (2, .int (f_X8_locked_x1 tales_away tales_unseenWays tales_seenHouses village now sights_count fits kinds moons places values k25 l2_25)), (3, .int (nI k25))] [] := by
          refine vv_iinc (lv2 := [(3, .int (nI (k25 + 1))), (0, .ref (A 0)), (1, .int (f_X5_inSome ((f_X8_tellTales tales_away tales_unseenWays tales_seenHouses village now sights_count fits kinds moons places values).2.2.2.2))), (2, .int (f_X8_locked_x1 tales_away tales_unseenWays tales_seenHouses village now sights_count fits kinds moons places values k25 l2_25))]) hC 3 dX8_locked_67 rfl (nI_add k25 1) (by decide) rfl ?_
          refine vv_goto hC 25 dX8_locked_70 (by decide) ?_
          refine vv_lv [1, 2, 3, 0] rfl ?_
          exact ih (k25 + 1) (f_X8_locked_x1 tales_away tales_unseenWays tales_seenHouses village now sights_count fits kinds moons places values k25 l2_25) out (by omega) (ho.trans (by first | (simp only [f_X8_locked_L25, if_neg c2]; done) | rfl | (simp only [f_X8_locked_L25, if_neg c2]; rfl))) hk
        refine vv_icmp_ge hC 67 dX8_locked_53 (by decide) (fun c3 => ?_) (fun c3 => ?_)
        · have c3 : f_J6_bitCount_0f7a4 l2_25 ≤ f_J6_bitCount_0f7a4 (nI k25) := c3
          have hz := hJ4
          try simp only [f_X8_locked_x1, if_pos c3] at hz
          first | exact hz | (simp only [f_X8_locked_x1, if_pos c3]; exact hz)
        · have c3 : ¬ (f_J6_bitCount_0f7a4 l2_25 ≤ f_J6_bitCount_0f7a4 (nI k25)) := c3
          refine vv_aload_n hC 0 dX8_locked_56 rfl rfl ?_
          refine vv_iload_n hC 1 dX8_locked_57 rfl rfl ?_
          refine vv_iload_n hC 3 dX8_locked_58 rfl rfl ?_
          refine vv_callV hC dX8_locked_59 md_X8_lockedIn lk_m_X8_279 lk_i_X8_lockedIn lk_s_X8_lockedIn h_who rfl (As := [.int (f_X5_inSome ((f_X8_tellTales tales_away tales_unseenWays tales_seenHouses village now sights_count fits kinds moons places values).2.2.2.2)), .int (nI k25)]) (rest := []) (c_X8_lockedIn g w1 A hA vi who_keptSlots who_seed now village (f_X5_inSome ((f_X8_tellTales tales_away tales_unseenWays tales_seenHouses village now sights_count fits kinds moons places values).2.2.2.2)) (nI k25) (by omega) (by omega) h_who h_now h_village) rfl rfl (Nat.le_of_ble_eq_true rfl) ⟨by decide, by decide, by decide, by decide⟩ (fun r w9 hq => ?_)
          obtain ⟨rfl, rfl⟩ := hq
          show V g X 4 w1 0 0 62 [(0, .ref (A 0)), (1, .int (f_X5_inSome ((f_X8_tellTales tales_away tales_unseenWays tales_seenHouses village now sights_count fits kinds moons places values).2.2.2.2))), (2, .int l2_25), (3, .int (nI k25))] [.int (bI (f_X8_lockedIn now village (f_X5_inSome ((f_X8_tellTales tales_away tales_unseenWays tales_seenHouses village now sights_count fits kinds moons places values).2.2.2.2)) (nI k25)))]
          refine vv_if_eq hC 67 dX8_locked_62 (by decide) (fun c5 => ?_) (fun c5 => ?_)
          · have c5 : ¬ (f_X8_lockedIn now village (f_X5_inSome ((f_X8_tellTales tales_away tales_unseenWays tales_seenHouses village now sights_count fits kinds moons places values).2.2.2.2)) (nI k25) = true) := bI_f c5
            have hz := hJ4
            try simp only [f_X8_locked_x1, if_neg c3, if_neg c5] at hz
            first | exact hz | (simp only [f_X8_locked_x1, if_neg c3, if_neg c5]; exact hz)
          · have c5 : f_X8_lockedIn now village (f_X5_inSome ((f_X8_tellTales tales_away tales_unseenWays tales_seenHouses village now sights_count fits kinds moons places values).2.2.2.2)) (nI k25) = true := bI_t c5
            refine vv_iload_n hC 3 dX8_locked_65 rfl rfl ?_
            refine vv_istore_n (lv2 := [(2, .int (nI k25)), (0, .ref (A 0)), (1, .int (f_X5_inSome ((f_X8_tellTales tales_away tales_unseenWays tales_seenHouses village now sights_count fits kinds moons places values).2.2.2.2))), (3, .int (nI k25))]) hC dX8_locked_66 rfl (by decide) rfl ?_
            refine vv_lv [1, 2, 0, 3] rfl ?_
            have hz := hJ4
            try simp only [f_X8_locked_x1, if_neg c3, if_pos c5] at hz
            first | exact hz | (simp only [f_X8_locked_x1, if_neg c3, if_pos c5]; exact hz)
  refine vv_lv [3, 2, 1, 0] rfl ?_
  refine hL6 16 0 (f_X8_below (nI (gVi_houses village))) (f_X8_locked_L25 tales_away tales_unseenWays tales_seenHouses village now sights_count fits kinds moons places values 16 0 (f_X8_below (nI (gVi_houses village)))) (by omega) rfl ?_
  refine vv_iload_n hC 2 dX8_locked_73 rfl rfl ?_
  have hf : (f_X8_locked tales_away tales_unseenWays tales_seenHouses village now sights_count fits kinds moons places values) = ((f_X8_locked_L25 tales_away tales_unseenWays tales_seenHouses village now sights_count fits kinds moons places values 16 0 (f_X8_below (nI (gVi_houses village)))), (f_X8_tellTales tales_away tales_unseenWays tales_seenHouses village now sights_count fits kinds moons places values).1, (f_X8_tellTales tales_away tales_unseenWays tales_seenHouses village now sights_count fits kinds moons places values).2.1, (f_X8_tellTales tales_away tales_unseenWays tales_seenHouses village now sights_count fits kinds moons places values).2.2.1, (f_X8_tellTales tales_away tales_unseenWays tales_seenHouses village now sights_count fits kinds moons places values).2.2.2.1, (f_X8_tellTales tales_away tales_unseenWays tales_seenHouses village now sights_count fits kinds moons places values).2.2.2.2) := by first | (simp only [f_X8_locked]; done) | rfl | (simp only [f_X8_locked]; rfl)
  refine vv_iret hC hR rfl dX8_locked_74 (by omega) (by omega) ?_
  rw [hf]
  try dsimp only
  exact ⟨rfl, h_tales, h_fits, hE⟩
def f_X8_walkBySeed (who_seed : Int64) (thought : TN) (village : TVi) (p1 : Int32) : Int64 × TN := (if f_J6_bitCount_0f7a4 (f_X2_goals thought village p1) = 0 then (who_seed, thought) else (((who_seed * 6364136223846793005) + 1442695040888963407), (f_X2_walk thought village p1 (f_X8_bitNumbered (f_X2_goals thought village p1) (((lushr ((who_seed * 6364136223846793005) + 1442695040888963407) 33) - (lushr ((who_seed * 6364136223846793005) + 1442695040888963407) 33) / (f_J6_bitCount_0f7a4 (f_X2_goals thought village p1)).toInt64 * (f_J6_bitCount_0f7a4 (f_X2_goals thought village p1)).toInt64).toInt32))).2))
set_option maxHeartbeats 4000000 in
set_option maxRecDepth 100000 in
theorem c_X8_walkBySeed (g : GT) (w0 : Wd) (A : Nat → Nat) (hA : ∀ i j, i < 60 → j < 60 → A i = A j → i = j) (vi : Nat) (who_keptSlots : Int32) (who_seed : Int64) (thought : TN) (village : TVi) (p1 : Int32) (hvh : gVi_houses village ≤ 4) (hvp : gVi_people village ≤ 6) (h_who : w0 (A 0) = some (.inr (8, cWh A vi (who_keptSlots, who_seed)))) (h_thought : w0 (A 4) = some (.inr (2, cN thought))) (h_village : w0 vi = some (.inr (7, cVi village))) : CT g yX8_walkBySeed cX8_walkBySeed 4 none 4 93 0 0 w0 [.ref (A 0), .int p1] (fun r w2 => r = none ∧ w2 (A 0) = some (.inr (8, cWh A vi (who_keptSlots, (f_X8_walkBySeed who_seed thought village p1).1))) ∧ w2 (A 4) = some (.inr (2, cN ((f_X8_walkBySeed who_seed thought village p1).2))) ∧ wE (fun q => q = (A 0) ∨ q = (A 4)) w0 w2) := by
  refine CT.of (own := RX8) (by decide +kernel) rfl (Nat.le_of_ble_eq_true rfl) (fun X hC hR hI => ?_)
  show V g X 4 w0 0 0 0 [(0, .ref (A 0)), (1, .int p1)] []
  have hE : wE (fun q => q = (A 0) ∨ q = (A 4)) w0 w0 := wE.refl
  refine vv_aload_n hC 0 dX8_walkBySeed_0 rfl rfl ?_
  refine vv_get (v := .ref (A 4)) hC fl_X8_30 dX8_walkBySeed_1 h_who rfl ?_
  refine vv_aload_n hC 0 dX8_walkBySeed_4 rfl rfl ?_
  refine vv_get (v := .ref vi) hC fl_X8_19 dX8_walkBySeed_5 h_who rfl ?_
  refine vv_iload_n hC 1 dX8_walkBySeed_8 rfl rfl ?_
  refine vv_callV hC dX8_walkBySeed_9 md_X2_goals lk_m_X8_162 lk_i_X2_goals lk_s_X2_goals h_thought rfl (As := [.ref vi, .int p1]) (rest := []) (c_X2_goals g w0 (A 4) vi thought village p1 h_thought h_village) rfl rfl (Nat.le_of_ble_eq_true rfl) ⟨by decide, by decide, by decide, by decide⟩ (fun r w9 hq => ?_)
  obtain ⟨rfl, rfl⟩ := hq
  show V g X 4 w0 0 0 12 [(0, .ref (A 0)), (1, .int p1)] [.int (f_X2_goals thought village p1)]
  refine vv_istore_n (lv2 := [(2, .int (f_X2_goals thought village p1)), (0, .ref (A 0)), (1, .int p1)]) hC dX8_walkBySeed_12 rfl (by decide) rfl ?_
  refine vv_iload_n hC 0 dX8_walkBySeed_13 rfl rfl ?_
  refine vv_callS hC dX8_walkBySeed_14 md_J6_bitCount_0f7a4 lk_m_X8_274 lk_t_J6_bitCount_0f7a4 (As := [.int (f_X2_goals thought village p1)]) (rest := []) (c_J6_bitCount_0f7a4 g w0 (f_X2_goals thought village p1)) rfl rfl (Nat.le_of_ble_eq_true rfl) ⟨by decide, by decide, by decide, by decide⟩ (fun r w9 hq => ?_)
  obtain ⟨rfl, rfl⟩ := hq
  show V g X 4 w0 0 0 17 [(2, .int (f_X2_goals thought village p1)), (0, .ref (A 0)), (1, .int p1)] [.int (f_J6_bitCount_0f7a4 (f_X2_goals thought village p1))]
  refine vv_istore_n (lv2 := [(3, .int (f_J6_bitCount_0f7a4 (f_X2_goals thought village p1))), (2, .int (f_X2_goals thought village p1)), (0, .ref (A 0)), (1, .int p1)]) hC dX8_walkBySeed_17 rfl (by decide) rfl ?_
  refine vv_iload_n hC 0 dX8_walkBySeed_18 rfl rfl ?_
  refine vv_if_ne hC 23 dX8_walkBySeed_19 (by decide) (fun c1 => ?_) (fun c1 => ?_)
  · have c1 : ¬ (f_J6_bitCount_0f7a4 (f_X2_goals thought village p1) = 0) := c1
    refine vv_aload_n hC 2 dX8_walkBySeed_23 rfl rfl ?_
    refine vv_aload_n hC 2 dX8_walkBySeed_24 rfl rfl ?_
    refine vv_get (v := .long who_seed) hC fl_X8_69 dX8_walkBySeed_25 h_who rfl ?_
    refine vv_ldc2 (v := (6364136223846793005)) hC lk_l_X8_319 dX8_walkBySeed_28 ?_
    refine vv_lmul hC dX8_walkBySeed_31 ?_
    refine vv_ldc2 (v := (1442695040888963407)) hC lk_l_X8_321 dX8_walkBySeed_32 ?_
    refine vv_ladd hC dX8_walkBySeed_35 ?_
    refine vv_put hC fp_X8_69 dX8_walkBySeed_36 h_who rfl rfl (Nat.le_of_ble_eq_true rfl) (fun w2 t1 hs => ?_)
    have t1 : w2 (A 0) = some (.inr (8, cWh A vi (who_keptSlots, ((who_seed * 6364136223846793005) + 1442695040888963407)))) := t1.trans (congrArg (fun z => some (Sum.inr (8, z))) (eWh_seed _ _ _ _ _))
    have h_thought := hs _ _ (fw_oo h_thought h_who (by decide)) h_thought
    have h_village := hs _ _ (fw_oo h_village h_who (by decide)) h_village
    have h_who := t1
    have hE := hE.trans (hs.mono (fun _ z => (Or.inl z)))
    refine vv_aload_n hC 2 dX8_walkBySeed_39 rfl rfl ?_
    refine vv_get (v := .ref (A 4)) hC fl_X8_30 dX8_walkBySeed_40 h_who rfl ?_
    refine vv_aload_n hC 2 dX8_walkBySeed_43 rfl rfl ?_
    refine vv_get (v := .ref vi) hC fl_X8_19 dX8_walkBySeed_44 h_who rfl ?_
    refine vv_iload_n hC 3 dX8_walkBySeed_47 rfl rfl ?_
    refine vv_iload_n hC 1 dX8_walkBySeed_48 rfl rfl ?_
    refine vv_aload_n hC 2 dX8_walkBySeed_49 rfl rfl ?_
    refine vv_get (v := .long ((who_seed * 6364136223846793005) + 1442695040888963407)) hC fl_X8_69 dX8_walkBySeed_50 h_who rfl ?_
    refine vv_bipush (v := (33)) hC dX8_walkBySeed_53 (by decide) ?_
    refine vv_lushr hC dX8_walkBySeed_55 ?_
    refine vv_iload_n hC 0 dX8_walkBySeed_56 rfl rfl ?_
    refine vv_i2l hC dX8_walkBySeed_57 ?_
    refine vv_lrem hC dX8_walkBySeed_58 (i64_ne c1) ?_
    refine vv_l2i hC dX8_walkBySeed_59 ?_
    refine vv_callS hC dX8_walkBySeed_60 md_X8_bitNumbered lk_m_X8_323 lk_t_X8_bitNumbered (As := [.int (f_X2_goals thought village p1), .int (((lushr ((who_seed * 6364136223846793005) + 1442695040888963407) 33) - (lushr ((who_seed * 6364136223846793005) + 1442695040888963407) 33) / (f_J6_bitCount_0f7a4 (f_X2_goals thought village p1)).toInt64 * (f_J6_bitCount_0f7a4 (f_X2_goals thought village p1)).toInt64).toInt32)]) (rest := [.int p1, .ref vi, .ref (A 4)]) (c_X8_bitNumbered g w2 (f_X2_goals thought village p1) (((lushr ((who_seed * 6364136223846793005) + 1442695040888963407) 33) - (lushr ((who_seed * 6364136223846793005) + 1442695040888963407) 33) / (f_J6_bitCount_0f7a4 (f_X2_goals thought village p1)).toInt64 * (f_J6_bitCount_0f7a4 (f_X2_goals thought village p1)).toInt64).toInt32)) rfl rfl (Nat.le_of_ble_eq_true rfl) ⟨by decide, by decide, by decide, by decide⟩ (fun r w9 hq => ?_)
    obtain ⟨rfl, rfl⟩ := hq
    show V g X 4 w2 0 0 63 [(3, .int (f_J6_bitCount_0f7a4 (f_X2_goals thought village p1))), (2, .int (f_X2_goals thought village p1)), (0, .ref (A 0)), (1, .int p1)] [.int (f_X8_bitNumbered (f_X2_goals thought village p1) (((lushr ((who_seed * 6364136223846793005) + 1442695040888963407) 33) - (lushr ((who_seed * 6364136223846793005) + 1442695040888963407) 33) / (f_J6_bitCount_0f7a4 (f_X2_goals thought village p1)).toInt64 * (f_J6_bitCount_0f7a4 (f_X2_goals thought village p1)).toInt64).toInt32)), .int p1, .ref vi, .ref (A 4)]
    refine vv_callV hC dX8_walkBySeed_63 md_X2_walk lk_m_X8_178 lk_i_X2_walk lk_s_X2_walk h_thought rfl (As := [.ref vi, .int p1, .int (f_X8_bitNumbered (f_X2_goals thought village p1) (((lushr ((who_seed * 6364136223846793005) + 1442695040888963407) 33) - (lushr ((who_seed * 6364136223846793005) + 1442695040888963407) 33) / (f_J6_bitCount_0f7a4 (f_X2_goals thought village p1)).toInt64 * (f_J6_bitCount_0f7a4 (f_X2_goals thought village p1)).toInt64).toInt32))]) (rest := []) (c_X2_walk g w2 (A 4) vi thought village p1 (f_X8_bitNumbered (f_X2_goals thought village p1) (((lushr ((who_seed * 6364136223846793005) + 1442695040888963407) 33) - (lushr ((who_seed * 6364136223846793005) + 1442695040888963407) 33) / (f_J6_bitCount_0f7a4 (f_X2_goals thought village p1)).toInt64 * (f_J6_bitCount_0f7a4 (f_X2_goals thought village p1)).toInt64).toInt32)) (by omega) (by omega) h_thought h_village) rfl rfl (Nat.le_of_ble_eq_true rfl) ⟨by decide, by decide, by decide, by decide⟩ (fun r w9 hq => ?_)
    obtain ⟨rfl, t1, hs⟩ := hq
    obtain ⟨w3, rfl⟩ : ∃ z, z = w9 := ⟨_, rfl⟩
    have h_who := hs _ _ (fw_oo h_who h_thought (by decide)) h_who
    have h_village := hs _ _ (fw_oo h_village h_thought (by decide)) h_village
    have h_thought := t1
    have hE := hE.trans (hs.mono (fun _ z => (Or.inr z)))
    show V g X 4 w3 0 0 66 [(3, .int (f_J6_bitCount_0f7a4 (f_X2_goals thought village p1))), (2, .int (f_X2_goals thought village p1)), (0, .ref (A 0)), (1, .int p1)] [.int ((f_X2_walk thought village p1 (f_X8_bitNumbered (f_X2_goals thought village p1) (((lushr ((who_seed * 6364136223846793005) + 1442695040888963407) 33) - (lushr ((who_seed * 6364136223846793005) + 1442695040888963407) 33) / (f_J6_bitCount_0f7a4 (f_X2_goals thought village p1)).toInt64 * (f_J6_bitCount_0f7a4 (f_X2_goals thought village p1)).toInt64).toInt32))).1)]
    refine vv_pop hC dX8_walkBySeed_66 rfl ?_
    have hf : (f_X8_walkBySeed who_seed thought village p1) = (((who_seed * 6364136223846793005) + 1442695040888963407), (f_X2_walk thought village p1 (f_X8_bitNumbered (f_X2_goals thought village p1) (((lushr ((who_seed * 6364136223846793005) + 1442695040888963407) 33) - (lushr ((who_seed * 6364136223846793005) + 1442695040888963407) 33) / (f_J6_bitCount_0f7a4 (f_X2_goals thought village p1)).toInt64 * (f_J6_bitCount_0f7a4 (f_X2_goals thought village p1)).toInt64).toInt32))).2) := by first | (simp only [f_X8_walkBySeed, if_neg c1]; done) | rfl | (simp only [f_X8_walkBySeed, if_neg c1]; rfl)
    refine vv_vret hC hR rfl dX8_walkBySeed_67 (by omega) (by omega) ?_
    rw [hf]
    try dsimp only
    exact ⟨rfl, h_who, h_thought, hE⟩
  · have c1 : f_J6_bitCount_0f7a4 (f_X2_goals thought village p1) = 0 := c1
    have hf : (f_X8_walkBySeed who_seed thought village p1) = (who_seed, thought) := by first | (simp only [f_X8_walkBySeed, if_pos c1]; done) | rfl | (simp only [f_X8_walkBySeed, if_pos c1]; rfl)
    refine vv_vret hC hR rfl dX8_walkBySeed_22 (by omega) (by omega) ?_
    rw [hf]
    try dsimp only
    exact ⟨rfl, h_who, h_thought, hE⟩
