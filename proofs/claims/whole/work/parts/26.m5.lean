def f_X9_person (x_people : Nat) (home : Nat → Int32) (now : Nat → Int32) (kin : Nat → Int32) (p1 : Int32) (p2 : Int32) : Int32 × Int32 := (if f_X9_noOne x_people p1 = true then ((-1), 0) else (if p2 = 0 then (home (tn p1), 0) else (if p2 = 1 then (f_X9_of now (tn p1) 0, 0) else (if p2 = 2 then (f_X9_of now (tn p1) 1, 0) else (if p2 = 3 then (f_X9_of now (tn p1) 2, 0) else (if p2 = 4 then (f_X9_of now (tn p1) 3, 0) else (if p2 = 5 then (f_X9_of now (tn p1) 4, 0) else (if p2 = 6 then (kin (tn p1), 0) else ((-2), 0)))))))))
set_option maxHeartbeats 4000000 in
set_option maxRecDepth 100000 in
theorem c_X9_person (g : GT) (w0 : Wd) (B : Nat → Nat) (hB : ∀ i j, i < 60 → j < 60 → B i = B j → i = j) (x_thrown : Int32) (x_houses : Nat) (x_people : Nat) (x_paths : Nat) (x_acts : Nat) (x_size : Nat) (x_at : Nat) (x_readHouses : Nat) (x_readPeople : Nat) (x_readPaths : Nat) (x_sights : Nat) (x_drawn : Int64) (home : Nat → Int32) (now : Nat → Int32) (kin : Nat → Int32) (p1 : Int32) (p2 : Int32) (hxp : x_people ≤ 6) (h_m : w0 (B 0) = some (.inr (9, cM B (x_thrown, x_houses, x_people, x_paths, x_acts, x_size, x_at, x_readHouses, x_readPeople, x_readPaths, x_sights, x_drawn)))) (h_home : w0 (B 5) = some (.inl (g.2.2.1 0, 6, .inl home))) (h_now : w0 (B 7) = some (.inl (g.2.2.1 0, 43, .inl now))) (h_kin : w0 (B 6) = some (.inl (g.2.2.1 0, 6, .inl kin))) : CT g yX9_person cX9_person 3 (some .int) 2 46 0 0 w0 [.ref (B 0), .int p1, .int p2] (fun r w2 => r = some (.int ((f_X9_person x_people home now kin p1 p2).1)) ∧ w2 (B 0) = some (.inr (9, cM B ((f_X9_person x_people home now kin p1 p2).2, x_houses, x_people, x_paths, x_acts, x_size, x_at, x_readHouses, x_readPeople, x_readPaths, x_sights, x_drawn))) ∧ wE (fun q => q = (B 0)) w0 w2) := by
  refine CT.of (own := RX9) (by decide +kernel) rfl (Nat.le_of_ble_eq_true rfl) (fun X hC hR hI => ?_)
  show V g X 3 w0 0 0 0 [(0, .ref (B 0)), (1, .int p1), (2, .int p2)] []
  have hE : wE (fun q => q = (B 0)) w0 w0 := wE.refl
  refine vv_aload_n hC 0 dX9_person_0 rfl rfl ?_
  refine vv_iconst (v := 0) hC dX9_person_1 (by decide) ?_
  refine vv_put hC fp_X9_69 dX9_person_2 h_m rfl rfl (Nat.le_of_ble_eq_true rfl) (fun w1 t1 hs => ?_)
  have t1 : w1 (B 0) = some (.inr (9, cM B (0, x_houses, x_people, x_paths, x_acts, x_size, x_at, x_readHouses, x_readPeople, x_readPaths, x_sights, x_drawn))) := t1.trans (congrArg (fun z => some (Sum.inr (9, z))) (eM_thrown _ _ _ _ _ _ _ _ _ _ _ _ _ _))
  have h_home := hs _ _ (fw_ao h_home h_m) h_home
  have h_now := hs _ _ (fw_ao h_now h_m) h_now
  have h_kin := hs _ _ (fw_ao h_kin h_m) h_kin
  have h_m := t1
  have hE := hE.trans (hs.mono (fun _ z => z))
  refine vv_aload_n hC 0 dX9_person_5 rfl rfl ?_
  refine vv_iload_n hC 1 dX9_person_6 rfl rfl ?_
  refine vv_callV hC dX9_person_7 md_X9_noOne lk_m_X9_168 lk_i_X9_noOne lk_s_X9_noOne h_m rfl (As := [.int p1]) (rest := []) (c_X9_noOne g w1 B hB 0 x_houses x_people x_paths x_acts x_size x_at x_readHouses x_readPeople x_readPaths x_sights x_drawn p1 h_m) rfl rfl (Nat.le_of_ble_eq_true rfl) ⟨by decide, by decide, by decide, by decide⟩ (fun r w9 hq => ?_)
  obtain ⟨rfl, rfl⟩ := hq
  show V g X 3 w1 0 0 10 [(0, .ref (B 0)), (1, .int p1), (2, .int p2)] [.int (bI (f_X9_noOne x_people p1))]
  refine vv_if_eq hC 15 dX9_person_10 (by decide) (fun c2 => ?_) (fun c2 => ?_)
  · have c2 : ¬ (f_X9_noOne x_people p1 = true) := bI_f c2
    have bc2 := noOne_b (by omega) c2
    refine vv_iload_n hC 2 dX9_person_15 rfl rfl ?_
    by_cases c3 : p2 = 0
    · refine vv_tableIn hC 60 dX9_person_16 (by rw [c3]; decide) (by rw [c3]; decide) (by rw [c3] <;> rfl) (by decide) ?_
      refine vv_aload_n hC 0 dX9_person_60 rfl rfl ?_
      refine vv_get (v := .ref (B 5)) hC fl_X9_13 dX9_person_61 h_m rfl ?_
      refine vv_iload_n hC 1 dX9_person_64 rfl rfl ?_
      refine vv_topi (nI (tn p1)) (noOne_e (by omega) c2) ?_
      refine vv_ialdn (t := tn p1) hC dX9_person_65 h_home (by omega) (by decide) ?_
      have hf : (f_X9_person x_people home now kin p1 p2) = (home (tn p1), 0) := by first | (simp only [f_X9_person, if_neg c2, if_pos c3]; done) | rfl | (simp only [f_X9_person, if_neg c2, if_pos c3]; rfl)
      refine vv_iret hC hR rfl dX9_person_66 (by omega) (by omega) ?_
      rw [hf]
      try dsimp only
      exact ⟨rfl, h_m, hE⟩
    · by_cases c4 : p2 = 1
      · refine vv_tableIn hC 67 dX9_person_16 (by rw [c4]; decide) (by rw [c4]; decide) (by rw [c4] <;> rfl) (by decide) ?_
        refine vv_aload_n hC 0 dX9_person_67 rfl rfl ?_
        refine vv_iload_n hC 1 dX9_person_68 rfl rfl ?_
        refine vv_topi (nI (tn p1)) (noOne_e (by omega) c2) ?_
        refine vv_iload_n hC 2 dX9_person_69 rfl rfl ?_
        refine vv_iconst (v := 1) hC dX9_person_70 (by decide) ?_
        refine vv_isub hC dX9_person_71 ?_
        refine vv_topi (0) (by rw [c4]; decide) ?_
        refine vv_callV hC dX9_person_72 md_X9_of lk_m_X9_83 lk_i_X9_of lk_s_X9_of h_m rfl (As := [.int (nI (tn p1)), .int 0]) (rest := []) (c_X9_of g w1 B hB 0 x_houses x_people x_paths x_acts x_size x_at x_readHouses x_readPeople x_readPaths x_sights x_drawn now (tn p1) 0 (by omega) (by omega) h_m h_now) rfl rfl (Nat.le_of_ble_eq_true rfl) ⟨by decide, by decide, by decide, by decide⟩ (fun r w9 hq => ?_)
        obtain ⟨rfl, rfl⟩ := hq
        show V g X 3 w1 0 0 75 [(0, .ref (B 0)), (1, .int p1), (2, .int p2)] [.int (f_X9_of now (tn p1) 0)]
        have hf : (f_X9_person x_people home now kin p1 p2) = (f_X9_of now (tn p1) 0, 0) := by first | (simp only [f_X9_person, if_neg c2, if_neg c3, if_pos c4]; done) | rfl | (simp only [f_X9_person, if_neg c2, if_neg c3, if_pos c4]; rfl)
        refine vv_iret hC hR rfl dX9_person_75 (by omega) (by omega) ?_
        rw [hf]
        try dsimp only
        exact ⟨rfl, h_m, hE⟩
      · by_cases c5 : p2 = 2
        · refine vv_tableIn hC 67 dX9_person_16 (by rw [c5]; decide) (by rw [c5]; decide) (by rw [c5] <;> rfl) (by decide) ?_
          refine vv_aload_n hC 0 dX9_person_67 rfl rfl ?_
          refine vv_iload_n hC 1 dX9_person_68 rfl rfl ?_
          refine vv_topi (nI (tn p1)) (noOne_e (by omega) c2) ?_
          refine vv_iload_n hC 2 dX9_person_69 rfl rfl ?_
          refine vv_iconst (v := 1) hC dX9_person_70 (by decide) ?_
          refine vv_isub hC dX9_person_71 ?_
          refine vv_topi (1) (by rw [c5]; decide) ?_
          refine vv_callV hC dX9_person_72 md_X9_of lk_m_X9_83 lk_i_X9_of lk_s_X9_of h_m rfl (As := [.int (nI (tn p1)), .int 1]) (rest := []) (c_X9_of g w1 B hB 0 x_houses x_people x_paths x_acts x_size x_at x_readHouses x_readPeople x_readPaths x_sights x_drawn now (tn p1) 1 (by omega) (by omega) h_m h_now) rfl rfl (Nat.le_of_ble_eq_true rfl) ⟨by decide, by decide, by decide, by decide⟩ (fun r w9 hq => ?_)
          obtain ⟨rfl, rfl⟩ := hq
          show V g X 3 w1 0 0 75 [(0, .ref (B 0)), (1, .int p1), (2, .int p2)] [.int (f_X9_of now (tn p1) 1)]
          have hf : (f_X9_person x_people home now kin p1 p2) = (f_X9_of now (tn p1) 1, 0) := by first | (simp only [f_X9_person, if_neg c2, if_neg c3, if_neg c4, if_pos c5]; done) | rfl | (simp only [f_X9_person, if_neg c2, if_neg c3, if_neg c4, if_pos c5]; rfl)
          refine vv_iret hC hR rfl dX9_person_75 (by omega) (by omega) ?_
          rw [hf]
          try dsimp only
          exact ⟨rfl, h_m, hE⟩
        · by_cases c6 : p2 = 3
          · refine vv_tableIn hC 67 dX9_person_16 (by rw [c6]; decide) (by rw [c6]; decide) (by rw [c6] <;> rfl) (by decide) ?_
            refine vv_aload_n hC 0 dX9_person_67 rfl rfl ?_
            refine vv_iload_n hC 1 dX9_person_68 rfl rfl ?_
            refine vv_topi (nI (tn p1)) (noOne_e (by omega) c2) ?_
            refine vv_iload_n hC 2 dX9_person_69 rfl rfl ?_
            refine vv_iconst (v := 1) hC dX9_person_70 (by decide) ?_
            refine vv_isub hC dX9_person_71 ?_
            refine vv_topi (2) (by rw [c6]; decide) ?_
            refine vv_callV hC dX9_person_72 md_X9_of lk_m_X9_83 lk_i_X9_of lk_s_X9_of h_m rfl (As := [.int (nI (tn p1)), .int 2]) (rest := []) (c_X9_of g w1 B hB 0 x_houses x_people x_paths x_acts x_size x_at x_readHouses x_readPeople x_readPaths x_sights x_drawn now (tn p1) 2 (by omega) (by omega) h_m h_now) rfl rfl (Nat.le_of_ble_eq_true rfl) ⟨by decide, by decide, by decide, by decide⟩ (fun r w9 hq => ?_)
            obtain ⟨rfl, rfl⟩ := hq
            show V g X 3 w1 0 0 75 [(0, .ref (B 0)), (1, .int p1), (2, .int p2)] [.int (f_X9_of now (tn p1) 2)]
            have hf : (f_X9_person x_people home now kin p1 p2) = (f_X9_of now (tn p1) 2, 0) := by first | (simp only [f_X9_person, if_neg c2, if_neg c3, if_neg c4, if_neg c5, if_pos c6]; done) | rfl | (simp only [f_X9_person, if_neg c2, if_neg c3, if_neg c4, if_neg c5, if_pos c6]; rfl)
            refine vv_iret hC hR rfl dX9_person_75 (by omega) (by omega) ?_
            rw [hf]
            try dsimp only
            exact ⟨rfl, h_m, hE⟩
          · by_cases c7 : p2 = 4
            · refine vv_tableIn hC 67 dX9_person_16 (by rw [c7]; decide) (by rw [c7]; decide) (by rw [c7] <;> rfl) (by decide) ?_
              refine vv_aload_n hC 0 dX9_person_67 rfl rfl ?_
              refine vv_iload_n hC 1 dX9_person_68 rfl rfl ?_
              refine vv_topi (nI (tn p1)) (noOne_e (by omega) c2) ?_
              refine vv_iload_n hC 2 dX9_person_69 rfl rfl ?_
              refine vv_iconst (v := 1) hC dX9_person_70 (by decide) ?_
              refine vv_isub hC dX9_person_71 ?_
              refine vv_topi (3) (by rw [c7]; decide) ?_
              refine vv_callV hC dX9_person_72 md_X9_of lk_m_X9_83 lk_i_X9_of lk_s_X9_of h_m rfl (As := [.int (nI (tn p1)), .int 3]) (rest := []) (c_X9_of g w1 B hB 0 x_houses x_people x_paths x_acts x_size x_at x_readHouses x_readPeople x_readPaths x_sights x_drawn now (tn p1) 3 (by omega) (by omega) h_m h_now) rfl rfl (Nat.le_of_ble_eq_true rfl) ⟨by decide, by decide, by decide, by decide⟩ (fun r w9 hq => ?_)
              obtain ⟨rfl, rfl⟩ := hq
              show V g X 3 w1 0 0 75 [(0, .ref (B 0)), (1, .int p1), (2, .int p2)] [.int (f_X9_of now (tn p1) 3)]
              have hf : (f_X9_person x_people home now kin p1 p2) = (f_X9_of now (tn p1) 3, 0) := by first | (simp only [f_X9_person, if_neg c2, if_neg c3, if_neg c4, if_neg c5, if_neg c6, if_pos c7]; done) | rfl | (simp only [f_X9_person, if_neg c2, if_neg c3, if_neg c4, if_neg c5, if_neg c6, if_pos c7]; rfl)
              refine vv_iret hC hR rfl dX9_person_75 (by omega) (by omega) ?_
              rw [hf]
              try dsimp only
              exact ⟨rfl, h_m, hE⟩
            · by_cases c8 : p2 = 5
              · refine vv_tableIn hC 67 dX9_person_16 (by rw [c8]; decide) (by rw [c8]; decide) (by rw [c8] <;> rfl) (by decide) ?_
                refine vv_aload_n hC 0 dX9_person_67 rfl rfl ?_
                refine vv_iload_n hC 1 dX9_person_68 rfl rfl ?_
                refine vv_topi (nI (tn p1)) (noOne_e (by omega) c2) ?_
                refine vv_iload_n hC 2 dX9_person_69 rfl rfl ?_
                refine vv_iconst (v := 1) hC dX9_person_70 (by decide) ?_
                refine vv_isub hC dX9_person_71 ?_
                refine vv_topi (4) (by rw [c8]; decide) ?_
                refine vv_callV hC dX9_person_72 md_X9_of lk_m_X9_83 lk_i_X9_of lk_s_X9_of h_m rfl (As := [.int (nI (tn p1)), .int 4]) (rest := []) (c_X9_of g w1 B hB 0 x_houses x_people x_paths x_acts x_size x_at x_readHouses x_readPeople x_readPaths x_sights x_drawn now (tn p1) 4 (by omega) (by omega) h_m h_now) rfl rfl (Nat.le_of_ble_eq_true rfl) ⟨by decide, by decide, by decide, by decide⟩ (fun r w9 hq => ?_)
                obtain ⟨rfl, rfl⟩ := hq
                show V g X 3 w1 0 0 75 [(0, .ref (B 0)), (1, .int p1), (2, .int p2)] [.int (f_X9_of now (tn p1) 4)]
                have hf : (f_X9_person x_people home now kin p1 p2) = (f_X9_of now (tn p1) 4, 0) := by first | (simp only [f_X9_person, if_neg c2, if_neg c3, if_neg c4, if_neg c5, if_neg c6, if_neg c7, if_pos c8]; done) | rfl | (simp only [f_X9_person, if_neg c2, if_neg c3, if_neg c4, if_neg c5, if_neg c6, if_neg c7, if_pos c8]; rfl)
                refine vv_iret hC hR rfl dX9_person_75 (by omega) (by omega) ?_
                rw [hf]
                try dsimp only
                exact ⟨rfl, h_m, hE⟩
              · by_cases c9 : p2 = 6
                · refine vv_tableIn hC 76 dX9_person_16 (by rw [c9]; decide) (by rw [c9]; decide) (by rw [c9] <;> rfl) (by decide) ?_
                  refine vv_aload_n hC 0 dX9_person_76 rfl rfl ?_
                  refine vv_get (v := .ref (B 6)) hC fl_X9_16 dX9_person_77 h_m rfl ?_
                  refine vv_iload_n hC 1 dX9_person_80 rfl rfl ?_
                  refine vv_topi (nI (tn p1)) (noOne_e (by omega) c2) ?_
                  refine vv_ialdn (t := tn p1) hC dX9_person_81 h_kin (by omega) (by decide) ?_
                  have hf : (f_X9_person x_people home now kin p1 p2) = (kin (tn p1), 0) := by first | (simp only [f_X9_person, if_neg c2, if_neg c3, if_neg c4, if_neg c5, if_neg c6, if_neg c7, if_neg c8, if_pos c9]; done) | rfl | (simp only [f_X9_person, if_neg c2, if_neg c3, if_neg c4, if_neg c5, if_neg c6, if_neg c7, if_neg c8, if_pos c9]; rfl)
                  refine vv_iret hC hR rfl dX9_person_82 (by omega) (by omega) ?_
                  rw [hf]
                  try dsimp only
                  exact ⟨rfl, h_m, hE⟩
                · have e_c3 : ¬ (p2).toInt = 0 := fun h => c3 (Int32.toInt_inj.mp (h.trans (by decide)))
                  have e_c4 : ¬ (p2).toInt = 1 := fun h => c4 (Int32.toInt_inj.mp (h.trans (by decide)))
                  have e_c5 : ¬ (p2).toInt = 2 := fun h => c5 (Int32.toInt_inj.mp (h.trans (by decide)))
                  have e_c6 : ¬ (p2).toInt = 3 := fun h => c6 (Int32.toInt_inj.mp (h.trans (by decide)))
                  have e_c7 : ¬ (p2).toInt = 4 := fun h => c7 (Int32.toInt_inj.mp (h.trans (by decide)))
                  have e_c8 : ¬ (p2).toInt = 5 := fun h => c8 (Int32.toInt_inj.mp (h.trans (by decide)))
                  have e_c9 : ¬ (p2).toInt = 6 := fun h => c9 (Int32.toInt_inj.mp (h.trans (by decide)))
                  refine vv_tableOut hC 83 dX9_person_16 (by omega) (by decide) ?_
                  refine vv_bipush (v := (-2)) hC dX9_person_83 (by decide) ?_
                  have hf : (f_X9_person x_people home now kin p1 p2) = ((-2), 0) := by first | (simp only [f_X9_person, if_neg c2, if_neg c3, if_neg c4, if_neg c5, if_neg c6, if_neg c7, if_neg c8, if_neg c9]; done) | rfl | (simp only [f_X9_person, if_neg c2, if_neg c3, if_neg c4, if_neg c5, if_neg c6, if_neg c7, if_neg c8, if_neg c9]; rfl)
                  refine vv_iret hC hR rfl dX9_person_85 (by omega) (by omega) ?_
                  rw [hf]
                  try dsimp only
                  exact ⟨rfl, h_m, hE⟩
  · have c2 : f_X9_noOne x_people p1 = true := bI_t c2
    refine vv_iconst (v := (-1)) hC dX9_person_13 (by decide) ?_
    have hf : (f_X9_person x_people home now kin p1 p2) = ((-1), 0) := by first | (simp only [f_X9_person, if_pos c2]; done) | rfl | (simp only [f_X9_person, if_pos c2]; rfl)
    refine vv_iret hC hR rfl dX9_person_14 (by omega) (by omega) ?_
    rw [hf]
    try dsimp only
    exact ⟨rfl, h_m, hE⟩
def f_X9_house_L20 (home : Nat → Int32) (p1 : Int32) : Nat → Nat → Int32 → Int32
  | 0, k20, l3_20 => l3_20
  | r20 + 1, k20, l3_20 => f_X9_house_L20 home p1 r20 (k20 + 1) (l3_20 ||| (if home k20 = nI (tn p1) then ((1 : Int32) <<< (nI k20 &&& 31)) else (0 : Int32)))
def f_X9_house (x_houses : Nat) (x_people : Nat) (home : Nat → Int32) (now : Nat → Int32) (path : Nat → Int32) (p1 : Int32) (p2 : Int32) : Int32 × Int32 := (if f_X9_noHouse x_houses p1 = true then ((-1), 0) else (if p2 = 0 then (now (1 + tn p1), 0) else (if p2 = 1 then (now (5 + tn p1), 0) else (if p2 = 2 then (now (9 + tn p1), 0) else (if p2 = 3 then ((f_X9_house_L20 home p1 x_people 0 0), 0) else (if p2 = 4 then (f_X9_nextTo x_houses path (tn p1) 1, 0) else (if p2 = 5 then (f_X9_nextTo x_houses path (tn p1) 2, 0) else ((-2), 0))))))))
set_option maxHeartbeats 4000000 in
set_option maxRecDepth 100000 in
theorem c_X9_house (g : GT) (w0 : Wd) (B : Nat → Nat) (hB : ∀ i j, i < 60 → j < 60 → B i = B j → i = j) (x_thrown : Int32) (x_houses : Nat) (x_people : Nat) (x_paths : Nat) (x_acts : Nat) (x_size : Nat) (x_at : Nat) (x_readHouses : Nat) (x_readPeople : Nat) (x_readPaths : Nat) (x_sights : Nat) (x_drawn : Int64) (home : Nat → Int32) (now : Nat → Int32) (path : Nat → Int32) (p1 : Int32) (p2 : Int32) (hxp : x_people ≤ 6) (hxh : x_houses ≤ 4) (h_m : w0 (B 0) = some (.inr (9, cM B (x_thrown, x_houses, x_people, x_paths, x_acts, x_size, x_at, x_readHouses, x_readPeople, x_readPaths, x_sights, x_drawn)))) (h_home : w0 (B 5) = some (.inl (g.2.2.1 0, 6, .inl home))) (h_now : w0 (B 7) = some (.inl (g.2.2.1 0, 43, .inl now))) (h_path : w0 (B 4) = some (.inl (g.2.2.1 0, 16, .inl path))) : CT g yX9_house cX9_house 5 (some .int) 2 46 0 0 w0 [.ref (B 0), .int p1, .int p2] (fun r w2 => r = some (.int ((f_X9_house x_houses x_people home now path p1 p2).1)) ∧ w2 (B 0) = some (.inr (9, cM B ((f_X9_house x_houses x_people home now path p1 p2).2, x_houses, x_people, x_paths, x_acts, x_size, x_at, x_readHouses, x_readPeople, x_readPaths, x_sights, x_drawn))) ∧ wE (fun q => q = (B 0)) w0 w2) := by
  refine CT.of (own := RX9) (by decide +kernel) rfl (Nat.le_of_ble_eq_true rfl) (fun X hC hR hI => ?_)
  show V g X 5 w0 0 0 0 [(0, .ref (B 0)), (1, .int p1), (2, .int p2)] []
  have hE : wE (fun q => q = (B 0)) w0 w0 := wE.refl
  refine vv_aload_n hC 0 dX9_house_0 rfl rfl ?_
  refine vv_iconst (v := 0) hC dX9_house_1 (by decide) ?_
  refine vv_put hC fp_X9_69 dX9_house_2 h_m rfl rfl (Nat.le_of_ble_eq_true rfl) (fun w1 t1 hs => ?_)
  have t1 : w1 (B 0) = some (.inr (9, cM B (0, x_houses, x_people, x_paths, x_acts, x_size, x_at, x_readHouses, x_readPeople, x_readPaths, x_sights, x_drawn))) := t1.trans (congrArg (fun z => some (Sum.inr (9, z))) (eM_thrown _ _ _ _ _ _ _ _ _ _ _ _ _ _))
  have h_home := hs _ _ (fw_ao h_home h_m) h_home
  have h_now := hs _ _ (fw_ao h_now h_m) h_now
  have h_path := hs _ _ (fw_ao h_path h_m) h_path
  have h_m := t1
  have hE := hE.trans (hs.mono (fun _ z => z))
  refine vv_aload_n hC 0 dX9_house_5 rfl rfl ?_
  refine vv_iload_n hC 1 dX9_house_6 rfl rfl ?_
  refine vv_callV hC dX9_house_7 md_X9_noHouse lk_m_X9_162 lk_i_X9_noHouse lk_s_X9_noHouse h_m rfl (As := [.int p1]) (rest := []) (c_X9_noHouse g w1 B hB 0 x_houses x_people x_paths x_acts x_size x_at x_readHouses x_readPeople x_readPaths x_sights x_drawn p1 h_m) rfl rfl (Nat.le_of_ble_eq_true rfl) ⟨by decide, by decide, by decide, by decide⟩ (fun r w9 hq => ?_)
  obtain ⟨rfl, rfl⟩ := hq
  show V g X 5 w1 0 0 10 [(0, .ref (B 0)), (1, .int p1), (2, .int p2)] [.int (bI (f_X9_noHouse x_houses p1))]
  refine vv_if_eq hC 15 dX9_house_10 (by decide) (fun c2 => ?_) (fun c2 => ?_)
  · have c2 : ¬ (f_X9_noHouse x_houses p1 = true) := bI_f c2
    have bc2 := noHouse_b (by omega) c2
    refine vv_iconst (v := 0) hC dX9_house_15 (by decide) ?_
    refine vv_istore_n (lv2 := [(3, .int 0), (0, .ref (B 0)), (1, .int p1), (2, .int p2)]) hC dX9_house_16 rfl (by decide) rfl ?_
    refine vv_iconst (v := 0) hC dX9_house_17 (by decide) ?_
    refine vv_istore (lv2 := [(4, .int 0), (3, .int 0), (0, .ref (B 0)), (1, .int p1), (2, .int p2)]) hC dX9_house_18 (by decide) rfl ?_
    have hL5 : ∀ (r20 k20 : Nat) (l3_20 : Int32) (out : Int32), k20 + r20 = x_people → out = f_X9_house_L20 home p1 r20 k20 l3_20 → V g X 5 w1 0 0 57 [(0, .ref (B 0)), (1, .int p1), (2, .int p2), (3, .int out)] [] → V g X 5 w1 0 0 20 [(0, .ref (B 0)), (1, .int p1), (2, .int p2), (3, .int l3_20), (4, .int (nI k20))] [] := by
      intro r20
      induction r20 with
      | zero =>
        intro k20 l3_20 out hb ho hk
        refine vv_iload hC 4 dX9_house_20 rfl ?_
        refine vv_aload_n hC 0 dX9_house_22 rfl rfl ?_
        refine vv_get (v := .int (nI x_people)) hC fl_X9_80 dX9_house_23 h_m rfl ?_
        refine vv_icmp_ge hC 57 dX9_house_26 (by decide) (fun c => ?_) (fun c => False.elim (c ((nI_le_ (a := x_people) (b := k20) (by omega) (by omega)).mpr (by omega))))
        refine vv_lv [0, 1, 2, 3] rfl ?_
        have ho := ho.trans (by first | (simp only [f_X9_house_L20]; done) | rfl | (simp only [f_X9_house_L20]; rfl) : _ = l3_20)
        subst ho
        exact hk
      | succ r20 ih =>
        intro k20 l3_20 out hb ho hk
        refine vv_iload hC 4 dX9_house_20 rfl ?_
        refine vv_aload_n hC 0 dX9_house_22 rfl rfl ?_
        refine vv_get (v := .int (nI x_people)) hC fl_X9_80 dX9_house_23 h_m rfl ?_
        refine vv_icmp_ge hC 57 dX9_house_26 (by decide) (fun c => absurd ((nI_le_ (a := x_people) (b := k20) (by omega) (by omega)).mp c) (by first | omega | decide)) (fun c => ?_)
        refine vv_iload_n hC 3 dX9_house_29 rfl rfl ?_
        refine vv_aload_n hC 0 dX9_house_30 rfl rfl ?_
        refine vv_get (v := .ref (B 5)) hC fl_X9_13 dX9_house_31 h_m rfl ?_
        refine vv_iload hC 4 dX9_house_34 rfl ?_
        refine vv_ialdn (t := k20) hC dX9_house_36 h_home (by omega) (by decide) ?_
        refine vv_iload_n hC 1 dX9_house_37 rfl rfl ?_
        refine vv_topi (nI (tn p1)) (noHouse_e (by omega) c2) ?_
        have hJ4 : V g X 5 w1 0 0 49 [(0, .ref (B 0)), (1, .int p1), (2, .int p2), (3, .int l3_20), (4, .int (nI k20))] [.int (if home k20 = nI (tn p1) then ((1 : Int32) <<< (nI k20 &&& 31)) else (0 : Int32)), .int l3_20] := by
          refine vv_ior hC dX9_house_49 ?_
          refine vv_istore_n (lv2 := [(3, .int (l3_20 ||| (if home k20 = nI (tn p1) then ((1 : Int32) <<< (nI k20 &&& 31)) else (0 : Int32)))), (0, .ref (B 0)), (1, .int p1), (2, .int p2), (4, .int (nI k20))]) hC dX9_house_50 rfl (by decide) rfl ?_
          refine vv_iinc (lv2 := [(4, .int (nI (k20 + 1))), (3, .int (l3_20 ||| (if home k20 = nI (tn p1) then ((1 : Int32) <<< (nI k20 &&& 31)) else (0 : Int32)))), (0, .ref (B 0)), (1, .int p1), (2, .int p2)]) hC 4 dX9_house_51 rfl (nI_add k20 1) (by decide) rfl ?_
          refine vv_goto hC 20 dX9_house_54 (by decide) ?_
          refine vv_lv [2, 3, 4, 1, 0] rfl ?_
          exact ih (k20 + 1) (l3_20 ||| (if home k20 = nI (tn p1) then ((1 : Int32) <<< (nI k20 &&& 31)) else (0 : Int32))) out (by omega) (ho.trans (by first | (simp only [f_X9_house_L20]; done) | rfl | (simp only [f_X9_house_L20]; rfl))) hk
        refine vv_icmp_ne hC 48 dX9_house_38 (by decide) (fun c3 => ?_) (fun c3 => ?_)
        · have c3 : ¬ (home k20 = nI (tn p1)) := c3
          refine vv_iconst (v := 0) hC dX9_house_48 (by decide) ?_
          have hz := hJ4
          try simp only [if_neg c3] at hz
          first | exact hz | (simp only [if_neg c3]; exact hz)
        · have c3 : home k20 = nI (tn p1) := c3
          refine vv_iconst (v := 1) hC dX9_house_41 (by decide) ?_
          refine vv_iload hC 4 dX9_house_42 rfl ?_
          refine vv_ishl hC dX9_house_44 ?_
          refine vv_goto hC 49 dX9_house_45 (by decide) ?_
          have hz := hJ4
          try simp only [if_pos c3] at hz
          first | exact hz | (simp only [if_pos c3]; exact hz)
    refine vv_lv [2, 3, 4, 1, 0] rfl ?_
    refine hL5 x_people 0 0 (f_X9_house_L20 home p1 x_people 0 0) (by omega) rfl ?_
    refine vv_iload_n hC 2 dX9_house_57 rfl rfl ?_
    by_cases c6 : p2 = 0
    · refine vv_tableIn hC 96 dX9_house_58 (by rw [c6]; decide) (by rw [c6]; decide) (by rw [c6] <;> rfl) (by decide) ?_
      refine vv_aload_n hC 0 dX9_house_96 rfl rfl ?_
      refine vv_get (v := .ref (B 7)) hC fl_X9_19 dX9_house_97 h_m rfl ?_
      refine vv_iconst (v := 1) hC dX9_house_100 (by decide) ?_
      refine vv_iload_n hC 1 dX9_house_101 rfl rfl ?_
      refine vv_topi (nI (tn p1)) (noHouse_e (by omega) c2) ?_
      refine vv_iadd hC dX9_house_102 ?_
      refine vv_topi (nI (1 + tn p1)) (nI_add 1 (tn p1)) ?_
      refine vv_ialdn (t := 1 + tn p1) hC dX9_house_103 h_now (by omega) (by decide) ?_
      have hf : (f_X9_house x_houses x_people home now path p1 p2) = (now (1 + tn p1), 0) := by first | (simp only [f_X9_house, if_neg c2, if_pos c6]; done) | rfl | (simp only [f_X9_house, if_neg c2, if_pos c6]; rfl)
      refine vv_iret hC hR rfl dX9_house_104 (by omega) (by omega) ?_
      rw [hf]
      try dsimp only
      exact ⟨rfl, h_m, hE⟩
    · by_cases c7 : p2 = 1
      · refine vv_tableIn hC 105 dX9_house_58 (by rw [c7]; decide) (by rw [c7]; decide) (by rw [c7] <;> rfl) (by decide) ?_
        refine vv_aload_n hC 0 dX9_house_105 rfl rfl ?_
        refine vv_get (v := .ref (B 7)) hC fl_X9_19 dX9_house_106 h_m rfl ?_
        refine vv_iconst (v := 5) hC dX9_house_109 (by decide) ?_
        refine vv_iload_n hC 1 dX9_house_110 rfl rfl ?_
        refine vv_topi (nI (tn p1)) (noHouse_e (by omega) c2) ?_
        refine vv_iadd hC dX9_house_111 ?_
        refine vv_topi (nI (5 + tn p1)) (nI_add 5 (tn p1)) ?_
        refine vv_ialdn (t := 5 + tn p1) hC dX9_house_112 h_now (by omega) (by decide) ?_
        have hf : (f_X9_house x_houses x_people home now path p1 p2) = (now (5 + tn p1), 0) := by first | (simp only [f_X9_house, if_neg c2, if_neg c6, if_pos c7]; done) | rfl | (simp only [f_X9_house, if_neg c2, if_neg c6, if_pos c7]; rfl)
        refine vv_iret hC hR rfl dX9_house_113 (by omega) (by omega) ?_
        rw [hf]
        try dsimp only
        exact ⟨rfl, h_m, hE⟩
      · by_cases c8 : p2 = 2
        · refine vv_tableIn hC 114 dX9_house_58 (by rw [c8]; decide) (by rw [c8]; decide) (by rw [c8] <;> rfl) (by decide) ?_
          refine vv_aload_n hC 0 dX9_house_114 rfl rfl ?_
          refine vv_get (v := .ref (B 7)) hC fl_X9_19 dX9_house_115 h_m rfl ?_
          refine vv_bipush (v := (9)) hC dX9_house_118 (by decide) ?_
          refine vv_iload_n hC 1 dX9_house_120 rfl rfl ?_
          refine vv_topi (nI (tn p1)) (noHouse_e (by omega) c2) ?_
          refine vv_iadd hC dX9_house_121 ?_
          refine vv_topi (nI (9 + tn p1)) (nI_add 9 (tn p1)) ?_
          refine vv_ialdn (t := 9 + tn p1) hC dX9_house_122 h_now (by omega) (by decide) ?_
          have hf : (f_X9_house x_houses x_people home now path p1 p2) = (now (9 + tn p1), 0) := by first | (simp only [f_X9_house, if_neg c2, if_neg c6, if_neg c7, if_pos c8]; done) | rfl | (simp only [f_X9_house, if_neg c2, if_neg c6, if_neg c7, if_pos c8]; rfl)
          refine vv_iret hC hR rfl dX9_house_123 (by omega) (by omega) ?_
          rw [hf]
          try dsimp only
          exact ⟨rfl, h_m, hE⟩
        · by_cases c9 : p2 = 3
          · refine vv_tableIn hC 124 dX9_house_58 (by rw [c9]; decide) (by rw [c9]; decide) (by rw [c9] <;> rfl) (by decide) ?_
            refine vv_iload_n hC 3 dX9_house_124 rfl rfl ?_
            have hf : (f_X9_house x_houses x_people home now path p1 p2) = ((f_X9_house_L20 home p1 x_people 0 0), 0) := by first | (simp only [f_X9_house, if_neg c2, if_neg c6, if_neg c7, if_neg c8, if_pos c9]; done) | rfl | (simp only [f_X9_house, if_neg c2, if_neg c6, if_neg c7, if_neg c8, if_pos c9]; rfl)
            refine vv_iret hC hR rfl dX9_house_125 (by omega) (by omega) ?_
            rw [hf]
            try dsimp only
            exact ⟨rfl, h_m, hE⟩
          · by_cases c10 : p2 = 4
            · refine vv_tableIn hC 126 dX9_house_58 (by rw [c10]; decide) (by rw [c10]; decide) (by rw [c10] <;> rfl) (by decide) ?_
              refine vv_aload_n hC 0 dX9_house_126 rfl rfl ?_
              refine vv_iload_n hC 1 dX9_house_127 rfl rfl ?_
              refine vv_topi (nI (tn p1)) (noHouse_e (by omega) c2) ?_
              refine vv_iconst (v := 1) hC dX9_house_128 (by decide) ?_
              refine vv_callV hC dX9_house_129 md_X9_nextTo lk_m_X9_165 lk_i_X9_nextTo lk_s_X9_nextTo h_m rfl (As := [.int (nI (tn p1)), .int 1]) (rest := []) (c_X9_nextTo g w1 B hB 0 x_houses x_people x_paths x_acts x_size x_at x_readHouses x_readPeople x_readPaths x_sights x_drawn path (tn p1) 1 (by omega) (by omega) h_m h_path) rfl rfl (Nat.le_of_ble_eq_true rfl) ⟨by decide, by decide, by decide, by decide⟩ (fun r w9 hq => ?_)
              obtain ⟨rfl, rfl⟩ := hq
              show V g X 5 w1 0 0 132 [(0, .ref (B 0)), (1, .int p1), (2, .int p2), (3, .int (f_X9_house_L20 home p1 x_people 0 0))] [.int (f_X9_nextTo x_houses path (tn p1) 1)]
              have hf : (f_X9_house x_houses x_people home now path p1 p2) = (f_X9_nextTo x_houses path (tn p1) 1, 0) := by first | (simp only [f_X9_house, if_neg c2, if_neg c6, if_neg c7, if_neg c8, if_neg c9, if_pos c10]; done) | rfl | (simp only [f_X9_house, if_neg c2, if_neg c6, if_neg c7, if_neg c8, if_neg c9, if_pos c10]; rfl)
              refine vv_iret hC hR rfl dX9_house_132 (by omega) (by omega) ?_
              rw [hf]
              try dsimp only
              exact ⟨rfl, h_m, hE⟩
            · by_cases c11 : p2 = 5
              · refine vv_tableIn hC 133 dX9_house_58 (by rw [c11]; decide) (by rw [c11]; decide) (by rw [c11] <;> rfl) (by decide) ?_
                refine vv_aload_n hC 0 dX9_house_133 rfl rfl ?_
                refine vv_iload_n hC 1 dX9_house_134 rfl rfl ?_
                refine vv_topi (nI (tn p1)) (noHouse_e (by omega) c2) ?_
                refine vv_iconst (v := 2) hC dX9_house_135 (by decide) ?_
                refine vv_callV hC dX9_house_136 md_X9_nextTo lk_m_X9_165 lk_i_X9_nextTo lk_s_X9_nextTo h_m rfl (As := [.int (nI (tn p1)), .int 2]) (rest := []) (c_X9_nextTo g w1 B hB 0 x_houses x_people x_paths x_acts x_size x_at x_readHouses x_readPeople x_readPaths x_sights x_drawn path (tn p1) 2 (by omega) (by omega) h_m h_path) rfl rfl (Nat.le_of_ble_eq_true rfl) ⟨by decide, by decide, by decide, by decide⟩ (fun r w9 hq => ?_)
                obtain ⟨rfl, rfl⟩ := hq
                show V g X 5 w1 0 0 139 [(0, .ref (B 0)), (1, .int p1), (2, .int p2), (3, .int (f_X9_house_L20 home p1 x_people 0 0))] [.int (f_X9_nextTo x_houses path (tn p1) 2)]
                have hf : (f_X9_house x_houses x_people home now path p1 p2) = (f_X9_nextTo x_houses path (tn p1) 2, 0) := by first | (simp only [f_X9_house, if_neg c2, if_neg c6, if_neg c7, if_neg c8, if_neg c9, if_neg c10, if_pos c11]; done) | rfl | (simp only [f_X9_house, if_neg c2, if_neg c6, if_neg c7, if_neg c8, if_neg c9, if_neg c10, if_pos c11]; rfl)
                refine vv_iret hC hR rfl dX9_house_139 (by omega) (by omega) ?_
                rw [hf]
                try dsimp only
                exact ⟨rfl, h_m, hE⟩
              · have e_c6 : ¬ (p2).toInt = 0 := fun h => c6 (Int32.toInt_inj.mp (h.trans (by decide)))
                have e_c7 : ¬ (p2).toInt = 1 := fun h => c7 (Int32.toInt_inj.mp (h.trans (by decide)))
                have e_c8 : ¬ (p2).toInt = 2 := fun h => c8 (Int32.toInt_inj.mp (h.trans (by decide)))
                have e_c9 : ¬ (p2).toInt = 3 := fun h => c9 (Int32.toInt_inj.mp (h.trans (by decide)))
                have e_c10 : ¬ (p2).toInt = 4 := fun h => c10 (Int32.toInt_inj.mp (h.trans (by decide)))
                have e_c11 : ¬ (p2).toInt = 5 := fun h => c11 (Int32.toInt_inj.mp (h.trans (by decide)))
                refine vv_tableOut hC 140 dX9_house_58 (by omega) (by decide) ?_
                refine vv_bipush (v := (-2)) hC dX9_house_140 (by decide) ?_
                have hf : (f_X9_house x_houses x_people home now path p1 p2) = ((-2), 0) := by first | (simp only [f_X9_house, if_neg c2, if_neg c6, if_neg c7, if_neg c8, if_neg c9, if_neg c10, if_neg c11]; done) | rfl | (simp only [f_X9_house, if_neg c2, if_neg c6, if_neg c7, if_neg c8, if_neg c9, if_neg c10, if_neg c11]; rfl)
                refine vv_iret hC hR rfl dX9_house_142 (by omega) (by omega) ?_
                rw [hf]
                try dsimp only
                exact ⟨rfl, h_m, hE⟩
  · have c2 : f_X9_noHouse x_houses p1 = true := bI_t c2
    refine vv_iconst (v := (-1)) hC dX9_house_13 (by decide) ?_
    have hf : (f_X9_house x_houses x_people home now path p1 p2) = ((-1), 0) := by first | (simp only [f_X9_house, if_pos c2]; done) | rfl | (simp only [f_X9_house, if_pos c2]; rfl)
    refine vv_iret hC hR rfl dX9_house_14 (by omega) (by omega) ?_
    rw [hf]
    try dsimp only
    exact ⟨rfl, h_m, hE⟩
def f_X9_may (x_houses : Nat) (x_people : Nat) (now : Nat → Int32) (home : Nat → Int32) (path : Nat → Int32) (p1 : Int32) : Int32 × Int32 := ((if f_X9_noOne x_people p1 = true then (-1 : Int32) else f_X9_mayOf x_houses now home path (tn p1)), 0)
set_option maxHeartbeats 4000000 in
set_option maxRecDepth 100000 in
theorem c_X9_may (g : GT) (w0 : Wd) (B : Nat → Nat) (hB : ∀ i j, i < 60 → j < 60 → B i = B j → i = j) (x_thrown : Int32) (x_houses : Nat) (x_people : Nat) (x_paths : Nat) (x_acts : Nat) (x_size : Nat) (x_at : Nat) (x_readHouses : Nat) (x_readPeople : Nat) (x_readPaths : Nat) (x_sights : Nat) (x_drawn : Int64) (now : Nat → Int32) (home : Nat → Int32) (path : Nat → Int32) (p1 : Int32) (hxp : x_people ≤ 6) (hxh : x_houses ≤ 4) (hom : ∀ q, q < 6 → home q = nI (tn (home q)) ∧ tn (home q) < 4) (h_m : w0 (B 0) = some (.inr (9, cM B (x_thrown, x_houses, x_people, x_paths, x_acts, x_size, x_at, x_readHouses, x_readPeople, x_readPaths, x_sights, x_drawn)))) (h_now : w0 (B 7) = some (.inl (g.2.2.1 0, 43, .inl now))) (h_home : w0 (B 5) = some (.inl (g.2.2.1 0, 6, .inl home))) (h_path : w0 (B 4) = some (.inl (g.2.2.1 0, 16, .inl path))) : CT g yX9_may cX9_may 2 (some .int) 3 66 0 0 w0 [.ref (B 0), .int p1] (fun r w2 => r = some (.int ((f_X9_may x_houses x_people now home path p1).1)) ∧ w2 (B 0) = some (.inr (9, cM B ((f_X9_may x_houses x_people now home path p1).2, x_houses, x_people, x_paths, x_acts, x_size, x_at, x_readHouses, x_readPeople, x_readPaths, x_sights, x_drawn))) ∧ wE (fun q => q = (B 0)) w0 w2) := by
  refine CT.of (own := RX9) (by decide +kernel) rfl (Nat.le_of_ble_eq_true rfl) (fun X hC hR hI => ?_)
  show V g X 2 w0 0 0 0 [(0, .ref (B 0)), (1, .int p1)] []
  have hE : wE (fun q => q = (B 0)) w0 w0 := wE.refl
  refine vv_aload_n hC 0 dX9_may_0 rfl rfl ?_
  refine vv_iconst (v := 0) hC dX9_may_1 (by decide) ?_
  refine vv_put hC fp_X9_69 dX9_may_2 h_m rfl rfl (Nat.le_of_ble_eq_true rfl) (fun w1 t1 hs => ?_)
  have t1 : w1 (B 0) = some (.inr (9, cM B (0, x_houses, x_people, x_paths, x_acts, x_size, x_at, x_readHouses, x_readPeople, x_readPaths, x_sights, x_drawn))) := t1.trans (congrArg (fun z => some (Sum.inr (9, z))) (eM_thrown _ _ _ _ _ _ _ _ _ _ _ _ _ _))
  have h_now := hs _ _ (fw_ao h_now h_m) h_now
  have h_home := hs _ _ (fw_ao h_home h_m) h_home
  have h_path := hs _ _ (fw_ao h_path h_m) h_path
  have h_m := t1
  have hE := hE.trans (hs.mono (fun _ z => z))
  refine vv_aload_n hC 0 dX9_may_5 rfl rfl ?_
  refine vv_iload_n hC 1 dX9_may_6 rfl rfl ?_
  refine vv_callV hC dX9_may_7 md_X9_noOne lk_m_X9_168 lk_i_X9_noOne lk_s_X9_noOne h_m rfl (As := [.int p1]) (rest := []) (c_X9_noOne g w1 B hB 0 x_houses x_people x_paths x_acts x_size x_at x_readHouses x_readPeople x_readPaths x_sights x_drawn p1 h_m) rfl rfl (Nat.le_of_ble_eq_true rfl) ⟨by decide, by decide, by decide, by decide⟩ (fun r w9 hq => ?_)
  obtain ⟨rfl, rfl⟩ := hq
  show V g X 2 w1 0 0 10 [(0, .ref (B 0)), (1, .int p1)] [.int (bI (f_X9_noOne x_people p1))]
  have hJ3 : V g X 2 w1 0 0 22 [(0, .ref (B 0)), (1, .int p1)] [.int (if f_X9_noOne x_people p1 = true then (-1 : Int32) else f_X9_mayOf x_houses now home path (tn p1))] := by
    have hf : (f_X9_may x_houses x_people now home path p1) = ((if f_X9_noOne x_people p1 = true then (-1 : Int32) else f_X9_mayOf x_houses now home path (tn p1)), 0) := by first | (simp only [f_X9_may]; done) | rfl | (simp only [f_X9_may]; rfl)
    refine vv_iret hC hR rfl dX9_may_22 (by omega) (by omega) ?_
    rw [hf]
    try dsimp only
    exact ⟨rfl, h_m, hE⟩
  refine vv_if_eq hC 17 dX9_may_10 (by decide) (fun c2 => ?_) (fun c2 => ?_)
  · have c2 : ¬ (f_X9_noOne x_people p1 = true) := bI_f c2
    have bc2 := noOne_b (by omega) c2
    refine vv_aload_n hC 0 dX9_may_17 rfl rfl ?_
    refine vv_iload_n hC 1 dX9_may_18 rfl rfl ?_
    refine vv_topi (nI (tn p1)) (noOne_e (by omega) c2) ?_
    refine vv_callV hC dX9_may_19 md_X9_mayOf lk_m_X9_178 lk_i_X9_mayOf lk_s_X9_mayOf h_m rfl (As := [.int (nI (tn p1))]) (rest := []) (c_X9_mayOf g w1 B hB 0 x_houses x_people x_paths x_acts x_size x_at x_readHouses x_readPeople x_readPaths x_sights x_drawn now home path (tn p1) (by omega) (by omega) (hom) h_m h_now h_home h_path) rfl rfl (Nat.le_of_ble_eq_true rfl) ⟨by decide, by decide, by decide, by decide⟩ (fun r w9 hq => ?_)
    obtain ⟨rfl, rfl⟩ := hq
    show V g X 2 w1 0 0 22 [(0, .ref (B 0)), (1, .int p1)] [.int (f_X9_mayOf x_houses now home path (tn p1))]
    have hz := hJ3
    try simp only [if_neg c2] at hz
    first | exact hz | (simp only [if_neg c2]; exact hz)
  · have c2 : f_X9_noOne x_people p1 = true := bI_t c2
    refine vv_iconst (v := (-1)) hC dX9_may_13 (by decide) ?_
    refine vv_goto hC 22 dX9_may_14 (by decide) ?_
    have hz := hJ3
    try simp only [if_pos c2] at hz
    first | exact hz | (simp only [if_pos c2]; exact hz)
def f_X9_prey (x_houses : Nat) (x_people : Nat) (now : Nat → Int32) (home : Nat → Int32) (path : Nat → Int32) (kin : Nat → Int32) (p1 : Int32) (p2 : Int32) : Int32 × Int32 := (if f_X9_noOne x_people p1 = true then ((-1), 0) else (if f_X9_noHouse x_houses p2 = true then ((-1), 0) else ((if f_X9_has (f_X9_mayOf x_houses now home path (tn p1)) (nI (tn p2)) = true then f_X9_preyOf x_people now home kin (tn p1) (tn p2) else (-3 : Int32)), 0)))
set_option maxHeartbeats 4000000 in
set_option maxRecDepth 100000 in
theorem c_X9_prey (g : GT) (w0 : Wd) (B : Nat → Nat) (hB : ∀ i j, i < 60 → j < 60 → B i = B j → i = j) (x_thrown : Int32) (x_houses : Nat) (x_people : Nat) (x_paths : Nat) (x_acts : Nat) (x_size : Nat) (x_at : Nat) (x_readHouses : Nat) (x_readPeople : Nat) (x_readPaths : Nat) (x_sights : Nat) (x_drawn : Int64) (now : Nat → Int32) (home : Nat → Int32) (path : Nat → Int32) (kin : Nat → Int32) (p1 : Int32) (p2 : Int32) (hxp : x_people ≤ 6) (hxh : x_houses ≤ 4) (hom : ∀ q, q < 6 → home q = nI (tn (home q)) ∧ tn (home q) < 4) (h_m : w0 (B 0) = some (.inr (9, cM B (x_thrown, x_houses, x_people, x_paths, x_acts, x_size, x_at, x_readHouses, x_readPeople, x_readPaths, x_sights, x_drawn)))) (h_now : w0 (B 7) = some (.inl (g.2.2.1 0, 43, .inl now))) (h_home : w0 (B 5) = some (.inl (g.2.2.1 0, 6, .inl home))) (h_path : w0 (B 4) = some (.inl (g.2.2.1 0, 16, .inl path))) (h_kin : w0 (B 6) = some (.inl (g.2.2.1 0, 6, .inl kin))) : CT g yX9_prey cX9_prey 3 (some .int) 3 66 0 0 w0 [.ref (B 0), .int p1, .int p2] (fun r w2 => r = some (.int ((f_X9_prey x_houses x_people now home path kin p1 p2).1)) ∧ w2 (B 0) = some (.inr (9, cM B ((f_X9_prey x_houses x_people now home path kin p1 p2).2, x_houses, x_people, x_paths, x_acts, x_size, x_at, x_readHouses, x_readPeople, x_readPaths, x_sights, x_drawn))) ∧ wE (fun q => q = (B 0)) w0 w2) := by
  refine CT.of (own := RX9) (by decide +kernel) rfl (Nat.le_of_ble_eq_true rfl) (fun X hC hR hI => ?_)
  show V g X 3 w0 0 0 0 [(0, .ref (B 0)), (1, .int p1), (2, .int p2)] []
  have hE : wE (fun q => q = (B 0)) w0 w0 := wE.refl
  refine vv_aload_n hC 0 dX9_prey_0 rfl rfl ?_
  refine vv_iconst (v := 0) hC dX9_prey_1 (by decide) ?_
  refine vv_put hC fp_X9_69 dX9_prey_2 h_m rfl rfl (Nat.le_of_ble_eq_true rfl) (fun w1 t1 hs => ?_)
  have t1 : w1 (B 0) = some (.inr (9, cM B (0, x_houses, x_people, x_paths, x_acts, x_size, x_at, x_readHouses, x_readPeople, x_readPaths, x_sights, x_drawn))) := t1.trans (congrArg (fun z => some (Sum.inr (9, z))) (eM_thrown _ _ _ _ _ _ _ _ _ _ _ _ _ _))
  have h_now := hs _ _ (fw_ao h_now h_m) h_now
  have h_home := hs _ _ (fw_ao h_home h_m) h_home
  have h_path := hs _ _ (fw_ao h_path h_m) h_path
  have h_kin := hs _ _ (fw_ao h_kin h_m) h_kin
  have h_m := t1
  have hE := hE.trans (hs.mono (fun _ z => z))
  refine vv_aload_n hC 0 dX9_prey_5 rfl rfl ?_
  refine vv_iload_n hC 1 dX9_prey_6 rfl rfl ?_
  refine vv_callV hC dX9_prey_7 md_X9_noOne lk_m_X9_168 lk_i_X9_noOne lk_s_X9_noOne h_m rfl (As := [.int p1]) (rest := []) (c_X9_noOne g w1 B hB 0 x_houses x_people x_paths x_acts x_size x_at x_readHouses x_readPeople x_readPaths x_sights x_drawn p1 h_m) rfl rfl (Nat.le_of_ble_eq_true rfl) ⟨by decide, by decide, by decide, by decide⟩ (fun r w9 hq => ?_)
  obtain ⟨rfl, rfl⟩ := hq
  show V g X 3 w1 0 0 10 [(0, .ref (B 0)), (1, .int p1), (2, .int p2)] [.int (bI (f_X9_noOne x_people p1))]
  refine vv_if_ne hC 21 dX9_prey_10 (by decide) (fun c2 => ?_) (fun c2 => ?_)
  · have c2 : f_X9_noOne x_people p1 = true := bI_t c2
    refine vv_iconst (v := (-1)) hC dX9_prey_21 (by decide) ?_
    have hf : (f_X9_prey x_houses x_people now home path kin p1 p2) = ((-1), 0) := by first | (simp only [f_X9_prey, if_pos c2]; done) | rfl | (simp only [f_X9_prey, if_pos c2]; rfl)
    refine vv_iret hC hR rfl dX9_prey_22 (by omega) (by omega) ?_
    rw [hf]
    try dsimp only
    exact ⟨rfl, h_m, hE⟩
  · have c2 : ¬ (f_X9_noOne x_people p1 = true) := bI_f c2
    have bc2 := noOne_b (by omega) c2
    refine vv_aload_n hC 0 dX9_prey_13 rfl rfl ?_
    refine vv_iload_n hC 2 dX9_prey_14 rfl rfl ?_
    refine vv_callV hC dX9_prey_15 md_X9_noHouse lk_m_X9_162 lk_i_X9_noHouse lk_s_X9_noHouse h_m rfl (As := [.int p2]) (rest := []) (c_X9_noHouse g w1 B hB 0 x_houses x_people x_paths x_acts x_size x_at x_readHouses x_readPeople x_readPaths x_sights x_drawn p2 h_m) rfl rfl (Nat.le_of_ble_eq_true rfl) ⟨by decide, by decide, by decide, by decide⟩ (fun r w9 hq => ?_)
    obtain ⟨rfl, rfl⟩ := hq
    show V g X 3 w1 0 0 18 [(0, .ref (B 0)), (1, .int p1), (2, .int p2)] [.int (bI (f_X9_noHouse x_houses p2))]
    refine vv_if_eq hC 23 dX9_prey_18 (by decide) (fun c3 => ?_) (fun c3 => ?_)
    · have c3 : ¬ (f_X9_noHouse x_houses p2 = true) := bI_f c3
      have bc3 := noHouse_b (by omega) c3
      refine vv_aload_n hC 0 dX9_prey_23 rfl rfl ?_
      refine vv_iload_n hC 1 dX9_prey_24 rfl rfl ?_
      refine vv_topi (nI (tn p1)) (noOne_e (by omega) c2) ?_
      refine vv_callV hC dX9_prey_25 md_X9_mayOf lk_m_X9_178 lk_i_X9_mayOf lk_s_X9_mayOf h_m rfl (As := [.int (nI (tn p1))]) (rest := []) (c_X9_mayOf g w1 B hB 0 x_houses x_people x_paths x_acts x_size x_at x_readHouses x_readPeople x_readPaths x_sights x_drawn now home path (tn p1) (by omega) (by omega) (hom) h_m h_now h_home h_path) rfl rfl (Nat.le_of_ble_eq_true rfl) ⟨by decide, by decide, by decide, by decide⟩ (fun r w9 hq => ?_)
      obtain ⟨rfl, rfl⟩ := hq
      show V g X 3 w1 0 0 28 [(0, .ref (B 0)), (1, .int p1), (2, .int p2)] [.int (f_X9_mayOf x_houses now home path (tn p1))]
      refine vv_iload_n hC 2 dX9_prey_28 rfl rfl ?_
      refine vv_topi (nI (tn p2)) (noHouse_e (by omega) c3) ?_
      refine vv_callS hC dX9_prey_29 md_X9_has lk_m_X9_127 lk_t_X9_has (As := [.int (f_X9_mayOf x_houses now home path (tn p1)), .int (nI (tn p2))]) (rest := []) (c_X9_has g w1 (f_X9_mayOf x_houses now home path (tn p1)) (nI (tn p2))) rfl rfl (Nat.le_of_ble_eq_true rfl) ⟨by decide, by decide, by decide, by decide⟩ (fun r w9 hq => ?_)
      obtain ⟨rfl, rfl⟩ := hq
      show V g X 3 w1 0 0 32 [(0, .ref (B 0)), (1, .int p1), (2, .int p2)] [.int (bI (f_X9_has (f_X9_mayOf x_houses now home path (tn p1)) (nI (tn p2))))]
      have hJ5 : V g X 3 w1 0 0 46 [(0, .ref (B 0)), (1, .int p1), (2, .int p2)] [.int (if f_X9_has (f_X9_mayOf x_houses now home path (tn p1)) (nI (tn p2)) = true then f_X9_preyOf x_people now home kin (tn p1) (tn p2) else (-3 : Int32))] := by
        have hf : (f_X9_prey x_houses x_people now home path kin p1 p2) = ((if f_X9_has (f_X9_mayOf x_houses now home path (tn p1)) (nI (tn p2)) = true then f_X9_preyOf x_people now home kin (tn p1) (tn p2) else (-3 : Int32)), 0) := by first | (simp only [f_X9_prey, if_neg c2, if_neg c3]; done) | rfl | (simp only [f_X9_prey, if_neg c2, if_neg c3]; rfl)
        refine vv_iret hC hR rfl dX9_prey_46 (by omega) (by omega) ?_
        rw [hf]
        try dsimp only
        exact ⟨rfl, h_m, hE⟩
      refine vv_if_eq hC 44 dX9_prey_32 (by decide) (fun c4 => ?_) (fun c4 => ?_)
      · have c4 : ¬ (f_X9_has (f_X9_mayOf x_houses now home path (tn p1)) (nI (tn p2)) = true) := bI_f c4
        refine vv_bipush (v := (-3)) hC dX9_prey_44 (by decide) ?_
        have hz := hJ5
        try simp only [if_neg c4] at hz
        first | exact hz | (simp only [if_neg c4]; exact hz)
      · have c4 : f_X9_has (f_X9_mayOf x_houses now home path (tn p1)) (nI (tn p2)) = true := bI_t c4
        refine vv_aload_n hC 0 dX9_prey_35 rfl rfl ?_
        refine vv_iload_n hC 1 dX9_prey_36 rfl rfl ?_
        refine vv_topi (nI (tn p1)) (noOne_e (by omega) c2) ?_
        refine vv_iload_n hC 2 dX9_prey_37 rfl rfl ?_
        refine vv_topi (nI (tn p2)) (noHouse_e (by omega) c3) ?_
        refine vv_callV hC dX9_prey_38 md_X9_preyOf lk_m_X9_181 lk_i_X9_preyOf lk_s_X9_preyOf h_m rfl (As := [.int (nI (tn p1)), .int (nI (tn p2))]) (rest := []) (c_X9_preyOf g w1 B hB 0 x_houses x_people x_paths x_acts x_size x_at x_readHouses x_readPeople x_readPaths x_sights x_drawn now home kin (tn p1) (tn p2) (by omega) (by omega) (by omega) h_m h_now h_home h_kin) rfl rfl (Nat.le_of_ble_eq_true rfl) ⟨by decide, by decide, by decide, by decide⟩ (fun r w9 hq => ?_)
        obtain ⟨rfl, rfl⟩ := hq
        show V g X 3 w1 0 0 41 [(0, .ref (B 0)), (1, .int p1), (2, .int p2)] [.int (f_X9_preyOf x_people now home kin (tn p1) (tn p2))]
        refine vv_goto hC 46 dX9_prey_41 (by decide) ?_
        have hz := hJ5
        try simp only [if_pos c4] at hz
        first | exact hz | (simp only [if_pos c4]; exact hz)
    · have c3 : f_X9_noHouse x_houses p2 = true := bI_t c3
      refine vv_iconst (v := (-1)) hC dX9_prey_21 (by decide) ?_
      have hf : (f_X9_prey x_houses x_people now home path kin p1 p2) = ((-1), 0) := by first | (simp only [f_X9_prey, if_neg c2, if_pos c3]; done) | rfl | (simp only [f_X9_prey, if_neg c2, if_pos c3]; rfl)
      refine vv_iret hC hR rfl dX9_prey_22 (by omega) (by omega) ?_
      rw [hf]
      try dsimp only
      exact ⟨rfl, h_m, hE⟩
def f_X9_keeps_L11 : Nat → Nat → (Nat → Int32) → (Nat → Int32)
  | 0, k11, y_was_11 => y_was_11
  | r11 + 1, k11, y_was_11 => f_X9_keeps_L11 r11 (k11 + 1) (upd y_was_11 k11 (y_was_11 (k11 + 43)))
def f_X9_keeps_L51 (x_acts : Nat) (now : Nat → Int32) : Nat → Nat → (Nat → Int32) → (Nat → Int32)
  | 0, k51, y_was_51 => y_was_51
  | r51 + 1, k51, y_was_51 => f_X9_keeps_L51 x_acts now r51 (k51 + 1) (upd y_was_51 (43 * (if x_acts = 16 then x_acts - 1 else x_acts) + k51) (now k51))
def f_X9_keeps (x_acts : Nat) (was : Nat → Int32) (now : Nat → Int32) : Nat × (Nat → Int32) := ((if x_acts = 16 then x_acts - 1 else x_acts) + 1, (f_X9_keeps_L51 x_acts now 43 0 (if x_acts = 16 then (f_X9_keeps_L11 645 0 was) else was)))
set_option maxHeartbeats 4000000 in
set_option maxRecDepth 100000 in
theorem c_X9_keeps (g : GT) (w0 : Wd) (B : Nat → Nat) (hB : ∀ i j, i < 60 → j < 60 → B i = B j → i = j) (x_thrown : Int32) (x_houses : Nat) (x_people : Nat) (x_paths : Nat) (x_acts : Nat) (x_size : Nat) (x_at : Nat) (x_readHouses : Nat) (x_readPeople : Nat) (x_readPaths : Nat) (x_sights : Nat) (x_drawn : Int64) (was : Nat → Int32) (now : Nat → Int32) (hac : x_acts ≤ 16) (h_m : w0 (B 0) = some (.inr (9, cM B (x_thrown, x_houses, x_people, x_paths, x_acts, x_size, x_at, x_readHouses, x_readPeople, x_readPaths, x_sights, x_drawn)))) (h_was : w0 (B 8) = some (.inl (g.2.2.1 0, 688, .inl was))) (h_now : w0 (B 7) = some (.inl (g.2.2.1 0, 43, .inl now))) : CT g yX9_keeps cX9_keeps 2 none 0 0 0 0 w0 [.ref (B 0)] (fun r w2 => r = none ∧ w2 (B 0) = some (.inr (9, cM B (x_thrown, x_houses, x_people, x_paths, (f_X9_keeps x_acts was now).1, x_size, x_at, x_readHouses, x_readPeople, x_readPaths, x_sights, x_drawn))) ∧ w2 (B 8) = some (.inl (g.2.2.1 0, 688, .inl ((f_X9_keeps x_acts was now).2))) ∧ wE (fun q => q = (B 0) ∨ q = (B 8)) w0 w2) := by
  refine CT.of (own := RX9) (by decide +kernel) rfl (Nat.le_of_ble_eq_true rfl) (fun X hC hR hI => ?_)
  show V g X 2 w0 0 0 0 [(0, .ref (B 0))] []
  have hE : wE (fun q => q = (B 0) ∨ q = (B 8)) w0 w0 := wE.refl
  refine vv_aload_n hC 0 dX9_keeps_0 rfl rfl ?_
  refine vv_get (v := .int (nI x_acts)) hC fl_X9_159 dX9_keeps_1 h_m rfl ?_
  refine vv_bipush (v := (16)) hC dX9_keeps_4 (by decide) ?_
  have hJ2 : ∀ w8 : Wd, w8 (B 0) = some (.inr (9, cM B (x_thrown, x_houses, x_people, x_paths, (if x_acts = 16 then x_acts - 1 else x_acts), x_size, x_at, x_readHouses, x_readPeople, x_readPaths, x_sights, x_drawn))) → w8 (B 8) = some (.inl (g.2.2.1 0, 688, .inl (if x_acts = 16 then (f_X9_keeps_L11 645 0 was) else was))) → w8 (B 7) = some (.inl (g.2.2.1 0, 43, .inl now)) → wE (fun q => q = (B 0) ∨ q = (B 8)) w0 w8 → V g X 2 w8 0 0 49 [(0, .ref (B 0))] [] := by
    intro w8 h_m h_was h_now hE
    have hac2 : (if x_acts = 16 then x_acts - 1 else x_acts) ≤ 15 := by split <;> omega
    refine vv_iconst (v := 0) hC dX9_keeps_49 (by decide) ?_
    refine vv_istore_n (lv2 := [(1, .int 0), (0, .ref (B 0))]) hC dX9_keeps_50 rfl (by decide) rfl ?_
    have hL12 : ∀ (r51 k51 : Nat) (y_was_51 : Nat → Int32) (w9 : Wd) (out : (Nat → Int32)), k51 + r51 = 43 → out = f_X9_keeps_L51 x_acts now r51 k51 y_was_51 → w9 (B 0) = some (.inr (9, cM B (x_thrown, x_houses, x_people, x_paths, (if x_acts = 16 then x_acts - 1 else x_acts), x_size, x_at, x_readHouses, x_readPeople, x_readPaths, x_sights, x_drawn))) → w9 (B 8) = some (.inl (g.2.2.1 0, 688, .inl y_was_51)) → w9 (B 7) = some (.inl (g.2.2.1 0, 43, .inl now)) → wE (fun q => q = (B 0) ∨ q = (B 8)) w0 w9 → (∀ w11 : Wd, w11 (B 0) = some (.inr (9, cM B (x_thrown, x_houses, x_people, x_paths, (if x_acts = 16 then x_acts - 1 else x_acts), x_size, x_at, x_readHouses, x_readPeople, x_readPaths, x_sights, x_drawn))) → w11 (B 8) = some (.inl (g.2.2.1 0, 688, .inl out)) → w11 (B 7) = some (.inl (g.2.2.1 0, 43, .inl now)) → wE (fun q => q = (B 0) ∨ q = (B 8)) w0 w11 → V g X 2 w11 0 0 83 [(0, .ref (B 0))] []) → V g X 2 w9 0 0 51 [(0, .ref (B 0)), (1, .int (nI k51))] [] := by
      intro r51
      induction r51 with
      | zero =>
        intro k51 y_was_51 w9 out hb ho h_m h_was h_now hE hk
        refine vv_iload_n hC 1 dX9_keeps_51 rfl rfl ?_
        refine vv_bipush (v := (43)) hC dX9_keeps_52 (by decide) ?_
        refine vv_icmp_ge hC 83 dX9_keeps_54 (by decide) (fun c => ?_) (fun c => False.elim (c ((nI_le_ (a := 43) (b := k51) (by omega) (by omega)).mpr (by omega))))
        refine vv_lv [0] rfl ?_
        have ho := ho.trans (by first | (simp only [f_X9_keeps_L51]; done) | rfl | (simp only [f_X9_keeps_L51]; rfl) : _ = y_was_51)
        subst ho
        exact hk w9 h_m h_was h_now hE
      | succ r51 ih =>
        intro k51 y_was_51 w9 out hb ho h_m h_was h_now hE hk
        refine vv_iload_n hC 1 dX9_keeps_51 rfl rfl ?_
        refine vv_bipush (v := (43)) hC dX9_keeps_52 (by decide) ?_
        refine vv_icmp_ge hC 83 dX9_keeps_54 (by decide) (fun c => absurd ((nI_le_ (a := 43) (b := k51) (by omega) (by omega)).mp c) (by first | omega | decide)) (fun c => ?_)
        refine vv_aload_n hC 0 dX9_keeps_57 rfl rfl ?_
        refine vv_get (v := .ref (B 8)) hC fl_X9_22 dX9_keeps_58 h_m rfl ?_
        refine vv_bipush (v := (43)) hC dX9_keeps_61 (by decide) ?_
        refine vv_aload_n hC 0 dX9_keeps_63 rfl rfl ?_
        refine vv_get (v := .int (nI (if x_acts = 16 then x_acts - 1 else x_acts))) hC fl_X9_159 dX9_keeps_64 h_m rfl ?_
        refine vv_imul hC dX9_keeps_67 ?_
        refine vv_topi (nI (43 * (if x_acts = 16 then x_acts - 1 else x_acts))) (pk_mul 43 (if x_acts = 16 then x_acts - 1 else x_acts)) ?_
        refine vv_iload_n hC 1 dX9_keeps_68 rfl rfl ?_
        refine vv_iadd hC dX9_keeps_69 ?_
        refine vv_topi (nI (43 * (if x_acts = 16 then x_acts - 1 else x_acts) + k51)) (nI_add (43 * (if x_acts = 16 then x_acts - 1 else x_acts)) k51) ?_
        refine vv_aload_n hC 0 dX9_keeps_70 rfl rfl ?_
        refine vv_get (v := .ref (B 7)) hC fl_X9_19 dX9_keeps_71 h_m rfl ?_
        refine vv_iload_n hC 1 dX9_keeps_74 rfl rfl ?_
        refine vv_ialdn (t := k51) hC dX9_keeps_75 h_now (by omega) (by decide) ?_
        refine vv_iastn (t := 43 * (if x_acts = 16 then x_acts - 1 else x_acts) + k51) hC dX9_keeps_76 h_was (by omega) (by decide) (fun w10 t1 hs => ?_)
        have t1 : w10 (B 8) = some (.inl (g.2.2.1 0, 688, .inl (upd y_was_51 (43 * (if x_acts = 16 then x_acts - 1 else x_acts) + k51) (now k51)))) := t1
        have h_m := hs _ _ (fw_oa h_m h_was) h_m
        have h_now := hs _ _ (fw_inj hB (by decide) (by decide) (by decide)) h_now
        have h_was := t1
        have hE := hE.trans (hs.mono (fun _ z => (Or.inr z)))
        refine vv_iinc (lv2 := [(1, .int (nI (k51 + 1))), (0, .ref (B 0))]) hC 1 dX9_keeps_77 rfl (nI_add k51 1) (by decide) rfl ?_
        refine vv_goto hC 51 dX9_keeps_80 (by decide) ?_
        refine vv_lv [1, 0] rfl ?_
        exact ih (k51 + 1) (upd y_was_51 (43 * (if x_acts = 16 then x_acts - 1 else x_acts) + k51) (now k51)) w10 out (by omega) (ho.trans (by first | (simp only [f_X9_keeps_L51]; done) | rfl | (simp only [f_X9_keeps_L51]; rfl))) h_m h_was h_now hE hk
    refine vv_lv [1, 0] rfl ?_
    refine hL12 43 0 (if x_acts = 16 then (f_X9_keeps_L11 645 0 was) else was) w8 (f_X9_keeps_L51 x_acts now 43 0 (if x_acts = 16 then (f_X9_keeps_L11 645 0 was) else was)) (by omega) rfl h_m h_was h_now hE ?_
    intro w11 h_m h_was h_now hE
    refine vv_aload_n hC 0 dX9_keeps_83 rfl rfl ?_
    refine vv_dup hC dX9_keeps_84 rfl ?_
    refine vv_get (v := .int (nI (if x_acts = 16 then x_acts - 1 else x_acts))) hC fl_X9_159 dX9_keeps_85 h_m rfl ?_
    refine vv_iconst (v := 1) hC dX9_keeps_88 (by decide) ?_
    refine vv_iadd hC dX9_keeps_89 ?_
    refine vv_topi (nI ((if x_acts = 16 then x_acts - 1 else x_acts) + 1)) (nI_add (if x_acts = 16 then x_acts - 1 else x_acts) 1) ?_
    refine vv_put hC fp_X9_159 dX9_keeps_90 h_m rfl rfl (Nat.le_of_ble_eq_true rfl) (fun w13 t1 hs => ?_)
    have t1 : w13 (B 0) = some (.inr (9, cM B (x_thrown, x_houses, x_people, x_paths, (if x_acts = 16 then x_acts - 1 else x_acts) + 1, x_size, x_at, x_readHouses, x_readPeople, x_readPaths, x_sights, x_drawn))) := t1.trans (congrArg (fun z => some (Sum.inr (9, z))) (eM_acts _ _ _ _ _ _ _ _ _ _ _ _ _ _))
    have h_was := hs _ _ (fw_ao h_was h_m) h_was
    have h_now := hs _ _ (fw_ao h_now h_m) h_now
    have h_m := t1
    have hE := hE.trans (hs.mono (fun _ z => (Or.inl z)))
    have hf : (f_X9_keeps x_acts was now) = ((if x_acts = 16 then x_acts - 1 else x_acts) + 1, (f_X9_keeps_L51 x_acts now 43 0 (if x_acts = 16 then (f_X9_keeps_L11 645 0 was) else was))) := by first | (simp only [f_X9_keeps]; done) | rfl | (simp only [f_X9_keeps]; rfl)
    refine vv_vret hC hR rfl dX9_keeps_93 (by omega) (by omega) ?_
    rw [hf]
    try dsimp only
    exact ⟨rfl, h_m, h_was, hE⟩
  refine vv_icmp_ne hC 49 dX9_keeps_6 (by decide) (fun c1 => ?_) (fun c1 => ?_)
  · have c1 : ¬ (x_acts = 16) := fun z => c1 ((nI_eq_ (a := x_acts) (b := 16) (by omega) (by omega)).mpr z)
    have hz := hJ2 w0
    try simp only [if_neg c1] at hz
    first | exact hz h_m h_was h_now hE | (simp only [if_neg c1]; exact hz h_m h_was h_now hE)
  · have c1 : x_acts = 16 := (nI_eq_ (a := x_acts) (b := 16) (by omega) (by omega)).mp c1
    refine vv_iconst (v := 0) hC dX9_keeps_9 (by decide) ?_
    refine vv_istore_n (lv2 := [(1, .int 0), (0, .ref (B 0))]) hC dX9_keeps_10 rfl (by decide) rfl ?_
    have hL6 : ∀ (r11 k11 : Nat) (y_was_11 : Nat → Int32) (w3 : Wd) (out : (Nat → Int32)), k11 + r11 = 645 → out = f_X9_keeps_L11 r11 k11 y_was_11 → w3 (B 0) = some (.inr (9, cM B (x_thrown, x_houses, x_people, x_paths, x_acts, x_size, x_at, x_readHouses, x_readPeople, x_readPaths, x_sights, x_drawn))) → w3 (B 8) = some (.inl (g.2.2.1 0, 688, .inl y_was_11)) → w3 (B 7) = some (.inl (g.2.2.1 0, 43, .inl now)) → wE (fun q => q = (B 0) ∨ q = (B 8)) w0 w3 → (∀ w5 : Wd, w5 (B 0) = some (.inr (9, cM B (x_thrown, x_houses, x_people, x_paths, x_acts, x_size, x_at, x_readHouses, x_readPeople, x_readPaths, x_sights, x_drawn))) → w5 (B 8) = some (.inl (g.2.2.1 0, 688, .inl out)) → w5 (B 7) = some (.inl (g.2.2.1 0, 43, .inl now)) → wE (fun q => q = (B 0) ∨ q = (B 8)) w0 w5 → V g X 2 w5 0 0 39 [(0, .ref (B 0))] []) → V g X 2 w3 0 0 11 [(0, .ref (B 0)), (1, .int (nI k11))] [] := by
      intro r11
      induction r11 with
      | zero =>
        intro k11 y_was_11 w3 out hb ho h_m h_was h_now hE hk
        refine vv_iload_n hC 1 dX9_keeps_11 rfl rfl ?_
        refine vv_sipush (v := (645)) hC dX9_keeps_12 (by decide) ?_
        refine vv_icmp_ge hC 39 dX9_keeps_15 (by decide) (fun c => ?_) (fun c => False.elim (c ((nI_le_ (a := 645) (b := k11) (by omega) (by omega)).mpr (by omega))))
        refine vv_lv [0] rfl ?_
        have ho := ho.trans (by first | (simp only [f_X9_keeps_L11]; done) | rfl | (simp only [f_X9_keeps_L11]; rfl) : _ = y_was_11)
        subst ho
        exact hk w3 h_m h_was h_now hE
      | succ r11 ih =>
        intro k11 y_was_11 w3 out hb ho h_m h_was h_now hE hk
        refine vv_iload_n hC 1 dX9_keeps_11 rfl rfl ?_
        refine vv_sipush (v := (645)) hC dX9_keeps_12 (by decide) ?_
        refine vv_icmp_ge hC 39 dX9_keeps_15 (by decide) (fun c => absurd ((nI_le_ (a := 645) (b := k11) (by omega) (by omega)).mp c) (by first | omega | decide)) (fun c => ?_)
        refine vv_aload_n hC 0 dX9_keeps_18 rfl rfl ?_
        refine vv_get (v := .ref (B 8)) hC fl_X9_22 dX9_keeps_19 h_m rfl ?_
        refine vv_iload_n hC 1 dX9_keeps_22 rfl rfl ?_
        refine vv_aload_n hC 0 dX9_keeps_23 rfl rfl ?_
        refine vv_get (v := .ref (B 8)) hC fl_X9_22 dX9_keeps_24 h_m rfl ?_
        refine vv_iload_n hC 1 dX9_keeps_27 rfl rfl ?_
        refine vv_bipush (v := (43)) hC dX9_keeps_28 (by decide) ?_
        refine vv_iadd hC dX9_keeps_30 ?_
        refine vv_topi (nI (k11 + 43)) (nI_add k11 43) ?_
        refine vv_ialdn (t := k11 + 43) hC dX9_keeps_31 h_was (by omega) (by decide) ?_
        refine vv_iastn (t := k11) hC dX9_keeps_32 h_was (by omega) (by decide) (fun w4 t1 hs => ?_)
        have t1 : w4 (B 8) = some (.inl (g.2.2.1 0, 688, .inl (upd y_was_11 k11 (y_was_11 (k11 + 43))))) := t1
        have h_m := hs _ _ (fw_oa h_m h_was) h_m
        have h_now := hs _ _ (fw_inj hB (by decide) (by decide) (by decide)) h_now
        have h_was := t1
        have hE := hE.trans (hs.mono (fun _ z => (Or.inr z)))
        refine vv_iinc (lv2 := [(1, .int (nI (k11 + 1))), (0, .ref (B 0))]) hC 1 dX9_keeps_33 rfl (nI_add k11 1) (by decide) rfl ?_
        refine vv_goto hC 11 dX9_keeps_36 (by decide) ?_
        refine vv_lv [1, 0] rfl ?_
        exact ih (k11 + 1) (upd y_was_11 k11 (y_was_11 (k11 + 43))) w4 out (by omega) (ho.trans (by first | (simp only [f_X9_keeps_L11]; done) | rfl | (simp only [f_X9_keeps_L11]; rfl))) h_m h_was h_now hE hk
    refine vv_lv [1, 0] rfl ?_
    refine hL6 645 0 was w0 (f_X9_keeps_L11 645 0 was) (by omega) rfl h_m h_was h_now hE ?_
    intro w5 h_m h_was h_now hE
    refine vv_aload_n hC 0 dX9_keeps_39 rfl rfl ?_
    refine vv_dup hC dX9_keeps_40 rfl ?_
    refine vv_get (v := .int (nI x_acts)) hC fl_X9_159 dX9_keeps_41 h_m rfl ?_
    refine vv_iconst (v := 1) hC dX9_keeps_44 (by decide) ?_
    refine vv_isub hC dX9_keeps_45 ?_
    refine vv_topi (nI (x_acts - 1)) (pk_sub (a := x_acts) (b := 1) (by omega)) ?_
    refine vv_put hC fp_X9_159 dX9_keeps_46 h_m rfl rfl (Nat.le_of_ble_eq_true rfl) (fun w7 t1 hs => ?_)
    have t1 : w7 (B 0) = some (.inr (9, cM B (x_thrown, x_houses, x_people, x_paths, x_acts - 1, x_size, x_at, x_readHouses, x_readPeople, x_readPaths, x_sights, x_drawn))) := t1.trans (congrArg (fun z => some (Sum.inr (9, z))) (eM_acts _ _ _ _ _ _ _ _ _ _ _ _ _ _))
    have h_was := hs _ _ (fw_ao h_was h_m) h_was
    have h_now := hs _ _ (fw_ao h_now h_m) h_now
    have h_m := t1
    have hE := hE.trans (hs.mono (fun _ z => (Or.inl z)))
    have hz := hJ2 w7
    try simp only [if_pos c1] at hz
    first | exact hz h_m h_was h_now hE | (simp only [if_pos c1]; exact hz h_m h_was h_now hE)
