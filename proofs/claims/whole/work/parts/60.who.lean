def f_X8_noHouse (village : TVi) (p1 : Int32) : Bool := (if p1 < 0 then true else (if p1 < nI (gVi_houses village) then false else true))
set_option maxHeartbeats 4000000 in
set_option maxRecDepth 100000 in
theorem c_X8_noHouse (g : GT) (w0 : Wd) (A : Nat → Nat) (hA : ∀ i j, i < 60 → j < 60 → A i = A j → i = j) (vi : Nat) (who_keptSlots : Int32) (who_seed : Int64) (village : TVi) (p1 : Int32) (h_who : w0 (A 0) = some (.inr (8, cWh A vi (who_keptSlots, who_seed)))) (h_village : w0 vi = some (.inr (7, cVi village))) : CT g yX8_noHouse cX8_noHouse 2 (some .boolean) 0 0 0 0 w0 [.ref (A 0), .int p1] (fun r w2 => r = some (.int (bI (f_X8_noHouse village p1))) ∧ w0 = w2) := by
  refine CT.of (own := RX8) (by decide +kernel) rfl (Nat.le_of_ble_eq_true rfl) (fun X hC hR hI => ?_)
  show V g X 2 w0 0 0 0 [(0, .ref (A 0)), (1, .int p1)] []
  refine vv_iload_n hC 1 dX8_noHouse_0 rfl rfl ?_
  have hJ2 : V g X 2 w0 0 0 20 [(0, .ref (A 0)), (1, .int p1)] [.int (bI (if p1 < 0 then true else (if p1 < nI (gVi_houses village) then false else true)))] := by
    have hf : (f_X8_noHouse village p1) = (if p1 < 0 then true else (if p1 < nI (gVi_houses village) then false else true)) := by first | (simp only [f_X8_noHouse]; done) | rfl | (simp only [f_X8_noHouse]; rfl)
    refine vv_zret hC hR rfl (bI_nar _) dX8_noHouse_20 (by omega) (by omega) ?_
    rw [hf]
    exact ⟨rfl, rfl⟩
  refine vv_if_lt hC 15 dX8_noHouse_1 (by decide) (fun c1 => ?_) (fun c1 => ?_)
  · have c1 : p1 < 0 := c1
    refine vv_iconst (v := 1) hC dX8_noHouse_15 (by decide) ?_
    refine vv_goto hC 20 dX8_noHouse_16 (by decide) ?_
    have hz := hJ2
    try simp only [if_pos c1] at hz
    first | exact hz | (simp only [if_pos c1]; exact hz)
  · have c1 : ¬ (p1 < 0) := c1
    refine vv_iload_n hC 1 dX8_noHouse_4 rfl rfl ?_
    refine vv_aload_n hC 0 dX8_noHouse_5 rfl rfl ?_
    refine vv_get (v := .ref vi) hC fl_X8_19 dX8_noHouse_6 h_who rfl ?_
    refine vv_getN (v := .int (nI (gVi_houses village))) hC fl_X8_101 dX8_noHouse_9 h_village rfl ?_
    refine vv_icmp_lt hC 19 dX8_noHouse_12 (by decide) (fun c3 => ?_) (fun c3 => ?_)
    · have c3 : p1 < nI (gVi_houses village) := c3
      refine vv_iconst (v := 0) hC dX8_noHouse_19 (by decide) ?_
      have hz := hJ2
      try simp only [if_neg c1, if_pos c3] at hz
      first | exact hz | (simp only [if_neg c1, if_pos c3]; exact hz)
    · have c3 : ¬ (p1 < nI (gVi_houses village)) := c3
      refine vv_iconst (v := 1) hC dX8_noHouse_15 (by decide) ?_
      refine vv_goto hC 20 dX8_noHouse_16 (by decide) ?_
      have hz := hJ2
      try simp only [if_neg c1, if_neg c3] at hz
      first | exact hz | (simp only [if_neg c1, if_neg c3]; exact hz)
def f_X8_noPerson (village : TVi) (p1 : Int32) : Bool := (if p1 < 0 then true else (if p1 < nI (gVi_people village) then false else true))
set_option maxHeartbeats 4000000 in
set_option maxRecDepth 100000 in
theorem c_X8_noPerson (g : GT) (w0 : Wd) (A : Nat → Nat) (hA : ∀ i j, i < 60 → j < 60 → A i = A j → i = j) (vi : Nat) (who_keptSlots : Int32) (who_seed : Int64) (village : TVi) (p1 : Int32) (h_who : w0 (A 0) = some (.inr (8, cWh A vi (who_keptSlots, who_seed)))) (h_village : w0 vi = some (.inr (7, cVi village))) : CT g yX8_noPerson cX8_noPerson 2 (some .boolean) 0 0 0 0 w0 [.ref (A 0), .int p1] (fun r w2 => r = some (.int (bI (f_X8_noPerson village p1))) ∧ w0 = w2) := by
  refine CT.of (own := RX8) (by decide +kernel) rfl (Nat.le_of_ble_eq_true rfl) (fun X hC hR hI => ?_)
  show V g X 2 w0 0 0 0 [(0, .ref (A 0)), (1, .int p1)] []
  refine vv_iload_n hC 1 dX8_noPerson_0 rfl rfl ?_
  have hJ2 : V g X 2 w0 0 0 20 [(0, .ref (A 0)), (1, .int p1)] [.int (bI (if p1 < 0 then true else (if p1 < nI (gVi_people village) then false else true)))] := by
    have hf : (f_X8_noPerson village p1) = (if p1 < 0 then true else (if p1 < nI (gVi_people village) then false else true)) := by first | (simp only [f_X8_noPerson]; done) | rfl | (simp only [f_X8_noPerson]; rfl)
    refine vv_zret hC hR rfl (bI_nar _) dX8_noPerson_20 (by omega) (by omega) ?_
    rw [hf]
    exact ⟨rfl, rfl⟩
  refine vv_if_lt hC 15 dX8_noPerson_1 (by decide) (fun c1 => ?_) (fun c1 => ?_)
  · have c1 : p1 < 0 := c1
    refine vv_iconst (v := 1) hC dX8_noPerson_15 (by decide) ?_
    refine vv_goto hC 20 dX8_noPerson_16 (by decide) ?_
    have hz := hJ2
    try simp only [if_pos c1] at hz
    first | exact hz | (simp only [if_pos c1]; exact hz)
  · have c1 : ¬ (p1 < 0) := c1
    refine vv_iload_n hC 1 dX8_noPerson_4 rfl rfl ?_
    refine vv_aload_n hC 0 dX8_noPerson_5 rfl rfl ?_
    refine vv_get (v := .ref vi) hC fl_X8_19 dX8_noPerson_6 h_who rfl ?_
    refine vv_getN (v := .int (nI (gVi_people village))) hC fl_X8_104 dX8_noPerson_9 h_village rfl ?_
    refine vv_icmp_lt hC 19 dX8_noPerson_12 (by decide) (fun c3 => ?_) (fun c3 => ?_)
    · have c3 : p1 < nI (gVi_people village) := c3
      refine vv_iconst (v := 0) hC dX8_noPerson_19 (by decide) ?_
      have hz := hJ2
      try simp only [if_neg c1, if_pos c3] at hz
      first | exact hz | (simp only [if_neg c1, if_pos c3]; exact hz)
    · have c3 : ¬ (p1 < nI (gVi_people village)) := c3
      refine vv_iconst (v := 1) hC dX8_noPerson_15 (by decide) ?_
      refine vv_goto hC 20 dX8_noPerson_16 (by decide) ?_
      have hz := hJ2
      try simp only [if_neg c1, if_neg c3] at hz
      first | exact hz | (simp only [if_neg c1, if_neg c3]; exact hz)
def f_X8_wipe (text_length : Nat) : Int32 × Nat := (nI text_length, 0)
set_option maxHeartbeats 4000000 in
set_option maxRecDepth 100000 in
theorem c_X8_wipe (g : GT) (w0 : Wd) (A : Nat → Nat) (hA : ∀ i j, i < 60 → j < 60 → A i = A j → i = j) (vi : Nat) (who_keptSlots : Int32) (who_seed : Int64) (text_length : Nat) (h_who : w0 (A 0) = some (.inr (8, cWh A vi (who_keptSlots, who_seed)))) (h_text : w0 (A 1) = some (.inr (6, cTx (A 2) text_length))) : CT g yX8_wipe cX8_wipe 2 (some .int) 0 0 0 0 w0 [.ref (A 0)] (fun r w2 => r = some (.int ((f_X8_wipe text_length).1)) ∧ w2 (A 1) = some (.inr (6, cTx (A 2) ((f_X8_wipe text_length).2))) ∧ wE (fun q => q = (A 1)) w0 w2) := by
  refine CT.of (own := RX8) (by decide +kernel) rfl (Nat.le_of_ble_eq_true rfl) (fun X hC hR hI => ?_)
  show V g X 2 w0 0 0 0 [(0, .ref (A 0))] []
  have hE : wE (fun q => q = (A 1)) w0 w0 := wE.refl
  refine vv_aload_n hC 0 dX8_wipe_0 rfl rfl ?_
  refine vv_get (v := .ref (A 1)) hC fl_X8_10 dX8_wipe_1 h_who rfl ?_
  refine vv_getN (v := .int (nI text_length)) hC fl_X8_77 dX8_wipe_4 h_text rfl ?_
  refine vv_istore_n (lv2 := [(1, .int (nI text_length)), (0, .ref (A 0))]) hC dX8_wipe_7 rfl (by decide) rfl ?_
  refine vv_aload_n hC 1 dX8_wipe_8 rfl rfl ?_
  refine vv_get (v := .ref (A 1)) hC fl_X8_10 dX8_wipe_9 h_who rfl ?_
  refine vv_iconst (v := 0) hC dX8_wipe_12 (by decide) ?_
  refine vv_putN hC fp_X8_77 dX8_wipe_13 h_text rfl rfl (Nat.le_of_ble_eq_true rfl) (fun w1 t1 hs => ?_)
  have t1 : w1 (A 1) = some (.inr (6, cTx (A 2) 0)) := t1.trans (congrArg (fun z => some (Sum.inr (6, z))) (eTx_length _ _ _))
  have h_who := hs _ _ (fw_oo h_who h_text (by decide)) h_who
  have h_text := t1
  have hE := hE.trans (hs.mono (fun _ z => z))
  refine vv_iload_n hC 0 dX8_wipe_16 rfl rfl ?_
  have hf : (f_X8_wipe text_length) = (nI text_length, 0) := by first | (simp only [f_X8_wipe]; done) | rfl | (simp only [f_X8_wipe]; rfl)
  refine vv_iret hC hR rfl dX8_wipe_17 (by omega) (by omega) ?_
  rw [hf]
  try dsimp only
  exact ⟨rfl, h_text, hE⟩
def f_X8_house (village : TVi) (now : TN) (p1 : Int32) (p2 : Int32) : Int32 := (if f_X8_noHouse village p1 = true then (-1) else (if p2 = 0 then f_X8_cell (gN_sheep now) p1 else (if p2 = 1 then f_X2_boltOf now p1 else (if p2 = 2 then f_X8_cell (gN_tracks now) p1 else (if p2 = 3 then f_X7_dwellers village p1 else (if p2 = 4 then f_X8_cell (gVi_paths village) p1 else (if p2 = 5 then f_X8_cell (gVi_wells village) p1 else (-2))))))))
set_option maxHeartbeats 4000000 in
set_option maxRecDepth 100000 in
theorem c_X8_house (g : GT) (w0 : Wd) (A : Nat → Nat) (hA : ∀ i j, i < 60 → j < 60 → A i = A j → i = j) (vi : Nat) (who_keptSlots : Int32) (who_seed : Int64) (village : TVi) (now : TN) (p1 : Int32) (p2 : Int32) (hvh : gVi_houses village ≤ 4) (hvp : gVi_people village ≤ 6) (h_who : w0 (A 0) = some (.inr (8, cWh A vi (who_keptSlots, who_seed)))) (h_village : w0 vi = some (.inr (7, cVi village))) (h_now : w0 (A 3) = some (.inr (2, cN now))) : CT g yX8_house cX8_house 3 (some .int) 2 45 0 0 w0 [.ref (A 0), .int p1, .int p2] (fun r w2 => r = some (.int (f_X8_house village now p1 p2)) ∧ w0 = w2) := by
  refine CT.of (own := RX8) (by decide +kernel) rfl (Nat.le_of_ble_eq_true rfl) (fun X hC hR hI => ?_)
  show V g X 3 w0 0 0 0 [(0, .ref (A 0)), (1, .int p1), (2, .int p2)] []
  refine vv_aload_n hC 0 dX8_house_0 rfl rfl ?_
  refine vv_iload_n hC 1 dX8_house_1 rfl rfl ?_
  refine vv_callV hC dX8_house_2 md_X8_noHouse lk_m_X8_107 lk_i_X8_noHouse lk_s_X8_noHouse h_who rfl (As := [.int p1]) (rest := []) (c_X8_noHouse g w0 A hA vi who_keptSlots who_seed village p1 h_who h_village) rfl rfl (Nat.le_of_ble_eq_true rfl) ⟨by decide, by decide, by decide, by decide⟩ (fun r w9 hq => ?_)
  obtain ⟨rfl, rfl⟩ := hq
  show V g X 3 w0 0 0 5 [(0, .ref (A 0)), (1, .int p1), (2, .int p2)] [.int (bI (f_X8_noHouse village p1))]
  refine vv_if_eq hC 10 dX8_house_5 (by decide) (fun c1 => ?_) (fun c1 => ?_)
  · have c1 : ¬ (f_X8_noHouse village p1 = true) := bI_f c1
    refine vv_iload_n hC 2 dX8_house_10 rfl rfl ?_
    by_cases c2 : p2 = 0
    · refine vv_tableIn hC 48 dX8_house_11 (by rw [c2]; decide) (by rw [c2]; decide) (by rw [c2] <;> rfl) (by decide) ?_
      refine vv_aload_n hC 0 dX8_house_48 rfl rfl ?_
      refine vv_get (v := .ref (A 3)) hC fl_X8_26 dX8_house_49 h_who rfl ?_
      refine vv_getN (v := .long (gN_sheep now)) hC fl_X8_111 dX8_house_52 h_now rfl ?_
      refine vv_iload_n hC 1 dX8_house_55 rfl rfl ?_
      refine vv_callS hC dX8_house_56 md_X8_cell lk_m_X8_114 lk_t_X8_cell (As := [.long (gN_sheep now), .int p1]) (rest := []) (c_X8_cell g w0 (gN_sheep now) p1) rfl rfl (Nat.le_of_ble_eq_true rfl) ⟨by decide, by decide, by decide, by decide⟩ (fun r w9 hq => ?_)
      obtain ⟨rfl, rfl⟩ := hq
      show V g X 3 w0 0 0 59 [(0, .ref (A 0)), (1, .int p1), (2, .int p2)] [.int (f_X8_cell (gN_sheep now) p1)]
      have hf : (f_X8_house village now p1 p2) = f_X8_cell (gN_sheep now) p1 := by first | (simp only [f_X8_house, if_neg c1, if_pos c2]; done) | rfl | (simp only [f_X8_house, if_neg c1, if_pos c2]; rfl)
      refine vv_iret hC hR rfl dX8_house_59 (by omega) (by omega) ?_
      rw [hf]
      exact ⟨rfl, rfl⟩
    · by_cases c3 : p2 = 1
      · refine vv_tableIn hC 60 dX8_house_11 (by rw [c3]; decide) (by rw [c3]; decide) (by rw [c3] <;> rfl) (by decide) ?_
        refine vv_aload_n hC 0 dX8_house_60 rfl rfl ?_
        refine vv_get (v := .ref (A 3)) hC fl_X8_26 dX8_house_61 h_who rfl ?_
        refine vv_iload_n hC 1 dX8_house_64 rfl rfl ?_
        refine vv_callV hC dX8_house_65 md_X2_boltOf lk_m_X8_118 lk_i_X2_boltOf lk_s_X2_boltOf h_now rfl (As := [.int p1]) (rest := []) (c_X2_boltOf g w0 (A 3) now p1 h_now) rfl rfl (Nat.le_of_ble_eq_true rfl) ⟨by decide, by decide, by decide, by decide⟩ (fun r w9 hq => ?_)
        obtain ⟨rfl, rfl⟩ := hq
        show V g X 3 w0 0 0 68 [(0, .ref (A 0)), (1, .int p1), (2, .int p2)] [.int (f_X2_boltOf now p1)]
        have hf : (f_X8_house village now p1 p2) = f_X2_boltOf now p1 := by first | (simp only [f_X8_house, if_neg c1, if_neg c2, if_pos c3]; done) | rfl | (simp only [f_X8_house, if_neg c1, if_neg c2, if_pos c3]; rfl)
        refine vv_iret hC hR rfl dX8_house_68 (by omega) (by omega) ?_
        rw [hf]
        exact ⟨rfl, rfl⟩
      · by_cases c4 : p2 = 2
        · refine vv_tableIn hC 69 dX8_house_11 (by rw [c4]; decide) (by rw [c4]; decide) (by rw [c4] <;> rfl) (by decide) ?_
          refine vv_aload_n hC 0 dX8_house_69 rfl rfl ?_
          refine vv_get (v := .ref (A 3)) hC fl_X8_26 dX8_house_70 h_who rfl ?_
          refine vv_getN (v := .long (gN_tracks now)) hC fl_X8_122 dX8_house_73 h_now rfl ?_
          refine vv_iload_n hC 1 dX8_house_76 rfl rfl ?_
          refine vv_callS hC dX8_house_77 md_X8_cell lk_m_X8_114 lk_t_X8_cell (As := [.long (gN_tracks now), .int p1]) (rest := []) (c_X8_cell g w0 (gN_tracks now) p1) rfl rfl (Nat.le_of_ble_eq_true rfl) ⟨by decide, by decide, by decide, by decide⟩ (fun r w9 hq => ?_)
          obtain ⟨rfl, rfl⟩ := hq
          show V g X 3 w0 0 0 80 [(0, .ref (A 0)), (1, .int p1), (2, .int p2)] [.int (f_X8_cell (gN_tracks now) p1)]
          have hf : (f_X8_house village now p1 p2) = f_X8_cell (gN_tracks now) p1 := by first | (simp only [f_X8_house, if_neg c1, if_neg c2, if_neg c3, if_pos c4]; done) | rfl | (simp only [f_X8_house, if_neg c1, if_neg c2, if_neg c3, if_pos c4]; rfl)
          refine vv_iret hC hR rfl dX8_house_80 (by omega) (by omega) ?_
          rw [hf]
          exact ⟨rfl, rfl⟩
        · by_cases c5 : p2 = 3
          · refine vv_tableIn hC 81 dX8_house_11 (by rw [c5]; decide) (by rw [c5]; decide) (by rw [c5] <;> rfl) (by decide) ?_
            refine vv_aload_n hC 0 dX8_house_81 rfl rfl ?_
            refine vv_get (v := .ref vi) hC fl_X8_19 dX8_house_82 h_who rfl ?_
            refine vv_iload_n hC 1 dX8_house_85 rfl rfl ?_
            refine vv_callV hC dX8_house_86 md_X7_dwellers lk_m_X8_125 lk_i_X7_dwellers lk_s_X7_dwellers h_village rfl (As := [.int p1]) (rest := []) (c_X7_dwellers g w0 vi village p1 (by omega) (by omega) h_village) rfl rfl (Nat.le_of_ble_eq_true rfl) ⟨by decide, by decide, by decide, by decide⟩ (fun r w9 hq => ?_)
            obtain ⟨rfl, rfl⟩ := hq
            show V g X 3 w0 0 0 89 [(0, .ref (A 0)), (1, .int p1), (2, .int p2)] [.int (f_X7_dwellers village p1)]
            have hf : (f_X8_house village now p1 p2) = f_X7_dwellers village p1 := by first | (simp only [f_X8_house, if_neg c1, if_neg c2, if_neg c3, if_neg c4, if_pos c5]; done) | rfl | (simp only [f_X8_house, if_neg c1, if_neg c2, if_neg c3, if_neg c4, if_pos c5]; rfl)
            refine vv_iret hC hR rfl dX8_house_89 (by omega) (by omega) ?_
            rw [hf]
            exact ⟨rfl, rfl⟩
          · by_cases c6 : p2 = 4
            · refine vv_tableIn hC 90 dX8_house_11 (by rw [c6]; decide) (by rw [c6]; decide) (by rw [c6] <;> rfl) (by decide) ?_
              refine vv_aload_n hC 0 dX8_house_90 rfl rfl ?_
              refine vv_get (v := .ref vi) hC fl_X8_19 dX8_house_91 h_who rfl ?_
              refine vv_getN (v := .long (gVi_paths village)) hC fl_X8_128 dX8_house_94 h_village rfl ?_
              refine vv_iload_n hC 1 dX8_house_97 rfl rfl ?_
              refine vv_callS hC dX8_house_98 md_X8_cell lk_m_X8_114 lk_t_X8_cell (As := [.long (gVi_paths village), .int p1]) (rest := []) (c_X8_cell g w0 (gVi_paths village) p1) rfl rfl (Nat.le_of_ble_eq_true rfl) ⟨by decide, by decide, by decide, by decide⟩ (fun r w9 hq => ?_)
              obtain ⟨rfl, rfl⟩ := hq
              show V g X 3 w0 0 0 101 [(0, .ref (A 0)), (1, .int p1), (2, .int p2)] [.int (f_X8_cell (gVi_paths village) p1)]
              have hf : (f_X8_house village now p1 p2) = f_X8_cell (gVi_paths village) p1 := by first | (simp only [f_X8_house, if_neg c1, if_neg c2, if_neg c3, if_neg c4, if_neg c5, if_pos c6]; done) | rfl | (simp only [f_X8_house, if_neg c1, if_neg c2, if_neg c3, if_neg c4, if_neg c5, if_pos c6]; rfl)
              refine vv_iret hC hR rfl dX8_house_101 (by omega) (by omega) ?_
              rw [hf]
              exact ⟨rfl, rfl⟩
            · by_cases c7 : p2 = 5
              · refine vv_tableIn hC 102 dX8_house_11 (by rw [c7]; decide) (by rw [c7]; decide) (by rw [c7] <;> rfl) (by decide) ?_
                refine vv_aload_n hC 0 dX8_house_102 rfl rfl ?_
                refine vv_get (v := .ref vi) hC fl_X8_19 dX8_house_103 h_who rfl ?_
                refine vv_getN (v := .long (gVi_wells village)) hC fl_X8_131 dX8_house_106 h_village rfl ?_
                refine vv_iload_n hC 1 dX8_house_109 rfl rfl ?_
                refine vv_callS hC dX8_house_110 md_X8_cell lk_m_X8_114 lk_t_X8_cell (As := [.long (gVi_wells village), .int p1]) (rest := []) (c_X8_cell g w0 (gVi_wells village) p1) rfl rfl (Nat.le_of_ble_eq_true rfl) ⟨by decide, by decide, by decide, by decide⟩ (fun r w9 hq => ?_)
                obtain ⟨rfl, rfl⟩ := hq
                show V g X 3 w0 0 0 113 [(0, .ref (A 0)), (1, .int p1), (2, .int p2)] [.int (f_X8_cell (gVi_wells village) p1)]
                have hf : (f_X8_house village now p1 p2) = f_X8_cell (gVi_wells village) p1 := by first | (simp only [f_X8_house, if_neg c1, if_neg c2, if_neg c3, if_neg c4, if_neg c5, if_neg c6, if_pos c7]; done) | rfl | (simp only [f_X8_house, if_neg c1, if_neg c2, if_neg c3, if_neg c4, if_neg c5, if_neg c6, if_pos c7]; rfl)
                refine vv_iret hC hR rfl dX8_house_113 (by omega) (by omega) ?_
                rw [hf]
                exact ⟨rfl, rfl⟩
              · have e_c2 : ¬ (p2).toInt = 0 := fun h => c2 (Int32.toInt_inj.mp (h.trans (by decide)))
                have e_c3 : ¬ (p2).toInt = 1 := fun h => c3 (Int32.toInt_inj.mp (h.trans (by decide)))
                have e_c4 : ¬ (p2).toInt = 2 := fun h => c4 (Int32.toInt_inj.mp (h.trans (by decide)))
                have e_c5 : ¬ (p2).toInt = 3 := fun h => c5 (Int32.toInt_inj.mp (h.trans (by decide)))
                have e_c6 : ¬ (p2).toInt = 4 := fun h => c6 (Int32.toInt_inj.mp (h.trans (by decide)))
                have e_c7 : ¬ (p2).toInt = 5 := fun h => c7 (Int32.toInt_inj.mp (h.trans (by decide)))
                refine vv_tableOut hC 114 dX8_house_11 (by omega) (by decide) ?_
                refine vv_bipush (v := (-2)) hC dX8_house_114 (by decide) ?_
                have hf : (f_X8_house village now p1 p2) = (-2) := by first | (simp only [f_X8_house, if_neg c1, if_neg c2, if_neg c3, if_neg c4, if_neg c5, if_neg c6, if_neg c7]; done) | rfl | (simp only [f_X8_house, if_neg c1, if_neg c2, if_neg c3, if_neg c4, if_neg c5, if_neg c6, if_neg c7]; rfl)
                refine vv_iret hC hR rfl dX8_house_116 (by omega) (by omega) ?_
                rw [hf]
                exact ⟨rfl, rfl⟩
  · have c1 : f_X8_noHouse village p1 = true := bI_t c1
    refine vv_iconst (v := (-1)) hC dX8_house_8 (by decide) ?_
    have hf : (f_X8_house village now p1 p2) = (-1) := by first | (simp only [f_X8_house, if_pos c1]; done) | rfl | (simp only [f_X8_house, if_pos c1]; rfl)
    refine vv_iret hC hR rfl dX8_house_9 (by omega) (by omega) ?_
    rw [hf]
    exact ⟨rfl, rfl⟩
def f_X8_person (village : TVi) (now : TN) (p1 : Int32) (p2 : Int32) : Int32 := (if f_X8_noPerson village p1 = true then (-1) else (if p2 = 0 then f_X8_cell (gVi_homes village) p1 else (if p2 = 1 then f_X8_bitOf (gN_wolves now) p1 else (if p2 = 2 then f_X8_bitOf (gN_bitten now) p1 else (if p2 = 3 then f_X8_bitOf (gN_gone now) p1 else (if p2 = 4 then f_X8_bitOf (gN_out now) p1 else (if p2 = 5 then f_X2_biterOf now p1 else (if p2 = 6 then f_X8_cell (gVi_kin village) p1 else (-2)))))))))
set_option maxHeartbeats 4000000 in
set_option maxRecDepth 100000 in
theorem c_X8_person (g : GT) (w0 : Wd) (A : Nat → Nat) (hA : ∀ i j, i < 60 → j < 60 → A i = A j → i = j) (vi : Nat) (who_keptSlots : Int32) (who_seed : Int64) (village : TVi) (now : TN) (p1 : Int32) (p2 : Int32) (h_who : w0 (A 0) = some (.inr (8, cWh A vi (who_keptSlots, who_seed)))) (h_village : w0 vi = some (.inr (7, cVi village))) (h_now : w0 (A 3) = some (.inr (2, cN now))) : CT g yX8_person cX8_person 3 (some .int) 2 44 0 0 w0 [.ref (A 0), .int p1, .int p2] (fun r w2 => r = some (.int (f_X8_person village now p1 p2)) ∧ w0 = w2) := by
  refine CT.of (own := RX8) (by decide +kernel) rfl (Nat.le_of_ble_eq_true rfl) (fun X hC hR hI => ?_)
  show V g X 3 w0 0 0 0 [(0, .ref (A 0)), (1, .int p1), (2, .int p2)] []
  refine vv_aload_n hC 0 dX8_person_0 rfl rfl ?_
  refine vv_iload_n hC 1 dX8_person_1 rfl rfl ?_
  refine vv_callV hC dX8_person_2 md_X8_noPerson lk_m_X8_134 lk_i_X8_noPerson lk_s_X8_noPerson h_who rfl (As := [.int p1]) (rest := []) (c_X8_noPerson g w0 A hA vi who_keptSlots who_seed village p1 h_who h_village) rfl rfl (Nat.le_of_ble_eq_true rfl) ⟨by decide, by decide, by decide, by decide⟩ (fun r w9 hq => ?_)
  obtain ⟨rfl, rfl⟩ := hq
  show V g X 3 w0 0 0 5 [(0, .ref (A 0)), (1, .int p1), (2, .int p2)] [.int (bI (f_X8_noPerson village p1))]
  refine vv_if_eq hC 10 dX8_person_5 (by decide) (fun c1 => ?_) (fun c1 => ?_)
  · have c1 : ¬ (f_X8_noPerson village p1 = true) := bI_f c1
    refine vv_iload_n hC 2 dX8_person_10 rfl rfl ?_
    by_cases c2 : p2 = 0
    · refine vv_tableIn hC 52 dX8_person_11 (by rw [c2]; decide) (by rw [c2]; decide) (by rw [c2] <;> rfl) (by decide) ?_
      refine vv_aload_n hC 0 dX8_person_52 rfl rfl ?_
      refine vv_get (v := .ref vi) hC fl_X8_19 dX8_person_53 h_who rfl ?_
      refine vv_getN (v := .long (gVi_homes village)) hC fl_X8_137 dX8_person_56 h_village rfl ?_
      refine vv_iload_n hC 1 dX8_person_59 rfl rfl ?_
      refine vv_callS hC dX8_person_60 md_X8_cell lk_m_X8_114 lk_t_X8_cell (As := [.long (gVi_homes village), .int p1]) (rest := []) (c_X8_cell g w0 (gVi_homes village) p1) rfl rfl (Nat.le_of_ble_eq_true rfl) ⟨by decide, by decide, by decide, by decide⟩ (fun r w9 hq => ?_)
      obtain ⟨rfl, rfl⟩ := hq
      show V g X 3 w0 0 0 63 [(0, .ref (A 0)), (1, .int p1), (2, .int p2)] [.int (f_X8_cell (gVi_homes village) p1)]
      have hf : (f_X8_person village now p1 p2) = f_X8_cell (gVi_homes village) p1 := by first | (simp only [f_X8_person, if_neg c1, if_pos c2]; done) | rfl | (simp only [f_X8_person, if_neg c1, if_pos c2]; rfl)
      refine vv_iret hC hR rfl dX8_person_63 (by omega) (by omega) ?_
      rw [hf]
      exact ⟨rfl, rfl⟩
    · by_cases c3 : p2 = 1
      · refine vv_tableIn hC 64 dX8_person_11 (by rw [c3]; decide) (by rw [c3]; decide) (by rw [c3] <;> rfl) (by decide) ?_
        refine vv_aload_n hC 0 dX8_person_64 rfl rfl ?_
        refine vv_get (v := .ref (A 3)) hC fl_X8_26 dX8_person_65 h_who rfl ?_
        refine vv_getN (v := .int (gN_wolves now)) hC fl_X8_140 dX8_person_68 h_now rfl ?_
        refine vv_iload_n hC 1 dX8_person_71 rfl rfl ?_
        refine vv_callS hC dX8_person_72 md_X8_bitOf lk_m_X8_143 lk_t_X8_bitOf (As := [.int (gN_wolves now), .int p1]) (rest := []) (c_X8_bitOf g w0 (gN_wolves now) p1) rfl rfl (Nat.le_of_ble_eq_true rfl) ⟨by decide, by decide, by decide, by decide⟩ (fun r w9 hq => ?_)
        obtain ⟨rfl, rfl⟩ := hq
        show V g X 3 w0 0 0 75 [(0, .ref (A 0)), (1, .int p1), (2, .int p2)] [.int (f_X8_bitOf (gN_wolves now) p1)]
        have hf : (f_X8_person village now p1 p2) = f_X8_bitOf (gN_wolves now) p1 := by first | (simp only [f_X8_person, if_neg c1, if_neg c2, if_pos c3]; done) | rfl | (simp only [f_X8_person, if_neg c1, if_neg c2, if_pos c3]; rfl)
        refine vv_iret hC hR rfl dX8_person_75 (by omega) (by omega) ?_
        rw [hf]
        exact ⟨rfl, rfl⟩
      · by_cases c4 : p2 = 2
        · refine vv_tableIn hC 76 dX8_person_11 (by rw [c4]; decide) (by rw [c4]; decide) (by rw [c4] <;> rfl) (by decide) ?_
          refine vv_aload_n hC 0 dX8_person_76 rfl rfl ?_
          refine vv_get (v := .ref (A 3)) hC fl_X8_26 dX8_person_77 h_who rfl ?_
          refine vv_getN (v := .int (gN_bitten now)) hC fl_X8_147 dX8_person_80 h_now rfl ?_
          refine vv_iload_n hC 1 dX8_person_83 rfl rfl ?_
          refine vv_callS hC dX8_person_84 md_X8_bitOf lk_m_X8_143 lk_t_X8_bitOf (As := [.int (gN_bitten now), .int p1]) (rest := []) (c_X8_bitOf g w0 (gN_bitten now) p1) rfl rfl (Nat.le_of_ble_eq_true rfl) ⟨by decide, by decide, by decide, by decide⟩ (fun r w9 hq => ?_)
          obtain ⟨rfl, rfl⟩ := hq
          show V g X 3 w0 0 0 87 [(0, .ref (A 0)), (1, .int p1), (2, .int p2)] [.int (f_X8_bitOf (gN_bitten now) p1)]
          have hf : (f_X8_person village now p1 p2) = f_X8_bitOf (gN_bitten now) p1 := by first | (simp only [f_X8_person, if_neg c1, if_neg c2, if_neg c3, if_pos c4]; done) | rfl | (simp only [f_X8_person, if_neg c1, if_neg c2, if_neg c3, if_pos c4]; rfl)
          refine vv_iret hC hR rfl dX8_person_87 (by omega) (by omega) ?_
          rw [hf]
          exact ⟨rfl, rfl⟩
        · by_cases c5 : p2 = 3
          · refine vv_tableIn hC 88 dX8_person_11 (by rw [c5]; decide) (by rw [c5]; decide) (by rw [c5] <;> rfl) (by decide) ?_
            refine vv_aload_n hC 0 dX8_person_88 rfl rfl ?_
            refine vv_get (v := .ref (A 3)) hC fl_X8_26 dX8_person_89 h_who rfl ?_
            refine vv_getN (v := .int (gN_gone now)) hC fl_X8_150 dX8_person_92 h_now rfl ?_
            refine vv_iload_n hC 1 dX8_person_95 rfl rfl ?_
            refine vv_callS hC dX8_person_96 md_X8_bitOf lk_m_X8_143 lk_t_X8_bitOf (As := [.int (gN_gone now), .int p1]) (rest := []) (c_X8_bitOf g w0 (gN_gone now) p1) rfl rfl (Nat.le_of_ble_eq_true rfl) ⟨by decide, by decide, by decide, by decide⟩ (fun r w9 hq => ?_)
            obtain ⟨rfl, rfl⟩ := hq
            show V g X 3 w0 0 0 99 [(0, .ref (A 0)), (1, .int p1), (2, .int p2)] [.int (f_X8_bitOf (gN_gone now) p1)]
            have hf : (f_X8_person village now p1 p2) = f_X8_bitOf (gN_gone now) p1 := by first | (simp only [f_X8_person, if_neg c1, if_neg c2, if_neg c3, if_neg c4, if_pos c5]; done) | rfl | (simp only [f_X8_person, if_neg c1, if_neg c2, if_neg c3, if_neg c4, if_pos c5]; rfl)
            refine vv_iret hC hR rfl dX8_person_99 (by omega) (by omega) ?_
            rw [hf]
            exact ⟨rfl, rfl⟩
          · by_cases c6 : p2 = 4
            · refine vv_tableIn hC 100 dX8_person_11 (by rw [c6]; decide) (by rw [c6]; decide) (by rw [c6] <;> rfl) (by decide) ?_
              refine vv_aload_n hC 0 dX8_person_100 rfl rfl ?_
              refine vv_get (v := .ref (A 3)) hC fl_X8_26 dX8_person_101 h_who rfl ?_
              refine vv_getN (v := .int (gN_out now)) hC fl_X8_153 dX8_person_104 h_now rfl ?_
              refine vv_iload_n hC 1 dX8_person_107 rfl rfl ?_
              refine vv_callS hC dX8_person_108 md_X8_bitOf lk_m_X8_143 lk_t_X8_bitOf (As := [.int (gN_out now), .int p1]) (rest := []) (c_X8_bitOf g w0 (gN_out now) p1) rfl rfl (Nat.le_of_ble_eq_true rfl) ⟨by decide, by decide, by decide, by decide⟩ (fun r w9 hq => ?_)
              obtain ⟨rfl, rfl⟩ := hq
              show V g X 3 w0 0 0 111 [(0, .ref (A 0)), (1, .int p1), (2, .int p2)] [.int (f_X8_bitOf (gN_out now) p1)]
              have hf : (f_X8_person village now p1 p2) = f_X8_bitOf (gN_out now) p1 := by first | (simp only [f_X8_person, if_neg c1, if_neg c2, if_neg c3, if_neg c4, if_neg c5, if_pos c6]; done) | rfl | (simp only [f_X8_person, if_neg c1, if_neg c2, if_neg c3, if_neg c4, if_neg c5, if_pos c6]; rfl)
              refine vv_iret hC hR rfl dX8_person_111 (by omega) (by omega) ?_
              rw [hf]
              exact ⟨rfl, rfl⟩
            · by_cases c7 : p2 = 5
              · refine vv_tableIn hC 112 dX8_person_11 (by rw [c7]; decide) (by rw [c7]; decide) (by rw [c7] <;> rfl) (by decide) ?_
                refine vv_aload_n hC 0 dX8_person_112 rfl rfl ?_
                refine vv_get (v := .ref (A 3)) hC fl_X8_26 dX8_person_113 h_who rfl ?_
                refine vv_iload_n hC 1 dX8_person_116 rfl rfl ?_
                refine vv_callV hC dX8_person_117 md_X2_biterOf lk_m_X8_156 lk_i_X2_biterOf lk_s_X2_biterOf h_now rfl (As := [.int p1]) (rest := []) (c_X2_biterOf g w0 (A 3) now p1 h_now) rfl rfl (Nat.le_of_ble_eq_true rfl) ⟨by decide, by decide, by decide, by decide⟩ (fun r w9 hq => ?_)
                obtain ⟨rfl, rfl⟩ := hq
                show V g X 3 w0 0 0 120 [(0, .ref (A 0)), (1, .int p1), (2, .int p2)] [.int (f_X2_biterOf now p1)]
                have hf : (f_X8_person village now p1 p2) = f_X2_biterOf now p1 := by first | (simp only [f_X8_person, if_neg c1, if_neg c2, if_neg c3, if_neg c4, if_neg c5, if_neg c6, if_pos c7]; done) | rfl | (simp only [f_X8_person, if_neg c1, if_neg c2, if_neg c3, if_neg c4, if_neg c5, if_neg c6, if_pos c7]; rfl)
                refine vv_iret hC hR rfl dX8_person_120 (by omega) (by omega) ?_
                rw [hf]
                exact ⟨rfl, rfl⟩
              · by_cases c8 : p2 = 6
                · refine vv_tableIn hC 121 dX8_person_11 (by rw [c8]; decide) (by rw [c8]; decide) (by rw [c8] <;> rfl) (by decide) ?_
                  refine vv_aload_n hC 0 dX8_person_121 rfl rfl ?_
                  refine vv_get (v := .ref vi) hC fl_X8_19 dX8_person_122 h_who rfl ?_
                  refine vv_getN (v := .long (gVi_kin village)) hC fl_X8_159 dX8_person_125 h_village rfl ?_
                  refine vv_iload_n hC 1 dX8_person_128 rfl rfl ?_
                  refine vv_callS hC dX8_person_129 md_X8_cell lk_m_X8_114 lk_t_X8_cell (As := [.long (gVi_kin village), .int p1]) (rest := []) (c_X8_cell g w0 (gVi_kin village) p1) rfl rfl (Nat.le_of_ble_eq_true rfl) ⟨by decide, by decide, by decide, by decide⟩ (fun r w9 hq => ?_)
                  obtain ⟨rfl, rfl⟩ := hq
                  show V g X 3 w0 0 0 132 [(0, .ref (A 0)), (1, .int p1), (2, .int p2)] [.int (f_X8_cell (gVi_kin village) p1)]
                  have hf : (f_X8_person village now p1 p2) = f_X8_cell (gVi_kin village) p1 := by first | (simp only [f_X8_person, if_neg c1, if_neg c2, if_neg c3, if_neg c4, if_neg c5, if_neg c6, if_neg c7, if_pos c8]; done) | rfl | (simp only [f_X8_person, if_neg c1, if_neg c2, if_neg c3, if_neg c4, if_neg c5, if_neg c6, if_neg c7, if_pos c8]; rfl)
                  refine vv_iret hC hR rfl dX8_person_132 (by omega) (by omega) ?_
                  rw [hf]
                  exact ⟨rfl, rfl⟩
                · have e_c2 : ¬ (p2).toInt = 0 := fun h => c2 (Int32.toInt_inj.mp (h.trans (by decide)))
                  have e_c3 : ¬ (p2).toInt = 1 := fun h => c3 (Int32.toInt_inj.mp (h.trans (by decide)))
                  have e_c4 : ¬ (p2).toInt = 2 := fun h => c4 (Int32.toInt_inj.mp (h.trans (by decide)))
                  have e_c5 : ¬ (p2).toInt = 3 := fun h => c5 (Int32.toInt_inj.mp (h.trans (by decide)))
                  have e_c6 : ¬ (p2).toInt = 4 := fun h => c6 (Int32.toInt_inj.mp (h.trans (by decide)))
                  have e_c7 : ¬ (p2).toInt = 5 := fun h => c7 (Int32.toInt_inj.mp (h.trans (by decide)))
                  have e_c8 : ¬ (p2).toInt = 6 := fun h => c8 (Int32.toInt_inj.mp (h.trans (by decide)))
                  refine vv_tableOut hC 133 dX8_person_11 (by omega) (by decide) ?_
                  refine vv_bipush (v := (-2)) hC dX8_person_133 (by decide) ?_
                  have hf : (f_X8_person village now p1 p2) = (-2) := by first | (simp only [f_X8_person, if_neg c1, if_neg c2, if_neg c3, if_neg c4, if_neg c5, if_neg c6, if_neg c7, if_neg c8]; done) | rfl | (simp only [f_X8_person, if_neg c1, if_neg c2, if_neg c3, if_neg c4, if_neg c5, if_neg c6, if_neg c7, if_neg c8]; rfl)
                  refine vv_iret hC hR rfl dX8_person_135 (by omega) (by omega) ?_
                  rw [hf]
                  exact ⟨rfl, rfl⟩
  · have c1 : f_X8_noPerson village p1 = true := bI_t c1
    refine vv_iconst (v := (-1)) hC dX8_person_8 (by decide) ?_
    have hf : (f_X8_person village now p1 p2) = (-1) := by first | (simp only [f_X8_person, if_pos c1]; done) | rfl | (simp only [f_X8_person, if_pos c1]; rfl)
    refine vv_iret hC hR rfl dX8_person_9 (by omega) (by omega) ?_
    rw [hf]
    exact ⟨rfl, rfl⟩
def f_X8_may (village : TVi) (now : TN) (p1 : Int32) : Int32 := (if f_X8_noPerson village p1 = true then (-1 : Int32) else f_X2_goals now village p1)
set_option maxHeartbeats 4000000 in
set_option maxRecDepth 100000 in
theorem c_X8_may (g : GT) (w0 : Wd) (A : Nat → Nat) (hA : ∀ i j, i < 60 → j < 60 → A i = A j → i = j) (vi : Nat) (who_keptSlots : Int32) (who_seed : Int64) (village : TVi) (now : TN) (p1 : Int32) (h_who : w0 (A 0) = some (.inr (8, cWh A vi (who_keptSlots, who_seed)))) (h_village : w0 vi = some (.inr (7, cVi village))) (h_now : w0 (A 3) = some (.inr (2, cN now))) : CT g yX8_may cX8_may 2 (some .int) 4 86 0 0 w0 [.ref (A 0), .int p1] (fun r w2 => r = some (.int (f_X8_may village now p1)) ∧ w0 = w2) := by
  refine CT.of (own := RX8) (by decide +kernel) rfl (Nat.le_of_ble_eq_true rfl) (fun X hC hR hI => ?_)
  show V g X 2 w0 0 0 0 [(0, .ref (A 0)), (1, .int p1)] []
  refine vv_aload_n hC 0 dX8_may_0 rfl rfl ?_
  refine vv_iload_n hC 1 dX8_may_1 rfl rfl ?_
  refine vv_callV hC dX8_may_2 md_X8_noPerson lk_m_X8_134 lk_i_X8_noPerson lk_s_X8_noPerson h_who rfl (As := [.int p1]) (rest := []) (c_X8_noPerson g w0 A hA vi who_keptSlots who_seed village p1 h_who h_village) rfl rfl (Nat.le_of_ble_eq_true rfl) ⟨by decide, by decide, by decide, by decide⟩ (fun r w9 hq => ?_)
  obtain ⟨rfl, rfl⟩ := hq
  show V g X 2 w0 0 0 5 [(0, .ref (A 0)), (1, .int p1)] [.int (bI (f_X8_noPerson village p1))]
  have hJ2 : V g X 2 w0 0 0 24 [(0, .ref (A 0)), (1, .int p1)] [.int (if f_X8_noPerson village p1 = true then (-1 : Int32) else f_X2_goals now village p1)] := by
    have hf : (f_X8_may village now p1) = (if f_X8_noPerson village p1 = true then (-1 : Int32) else f_X2_goals now village p1) := by first | (simp only [f_X8_may]; done) | rfl | (simp only [f_X8_may]; rfl)
    refine vv_iret hC hR rfl dX8_may_24 (by omega) (by omega) ?_
    rw [hf]
    exact ⟨rfl, rfl⟩
  refine vv_if_eq hC 12 dX8_may_5 (by decide) (fun c1 => ?_) (fun c1 => ?_)
  · have c1 : ¬ (f_X8_noPerson village p1 = true) := bI_f c1
    refine vv_aload_n hC 0 dX8_may_12 rfl rfl ?_
    refine vv_get (v := .ref (A 3)) hC fl_X8_26 dX8_may_13 h_who rfl ?_
    refine vv_aload_n hC 0 dX8_may_16 rfl rfl ?_
    refine vv_get (v := .ref vi) hC fl_X8_19 dX8_may_17 h_who rfl ?_
    refine vv_iload_n hC 1 dX8_may_20 rfl rfl ?_
    refine vv_callV hC dX8_may_21 md_X2_goals lk_m_X8_162 lk_i_X2_goals lk_s_X2_goals h_now rfl (As := [.ref vi, .int p1]) (rest := []) (c_X2_goals g w0 (A 3) vi now village p1 h_now h_village) rfl rfl (Nat.le_of_ble_eq_true rfl) ⟨by decide, by decide, by decide, by decide⟩ (fun r w9 hq => ?_)
    obtain ⟨rfl, rfl⟩ := hq
    show V g X 2 w0 0 0 24 [(0, .ref (A 0)), (1, .int p1)] [.int (f_X2_goals now village p1)]
    have hz := hJ2
    try simp only [if_neg c1] at hz
    first | exact hz | (simp only [if_neg c1]; exact hz)
  · have c1 : f_X8_noPerson village p1 = true := bI_t c1
    refine vv_iconst (v := (-1)) hC dX8_may_8 (by decide) ?_
    refine vv_goto hC 24 dX8_may_9 (by decide) ?_
    have hz := hJ2
    try simp only [if_pos c1] at hz
    first | exact hz | (simp only [if_pos c1]; exact hz)
def f_X8_prey (village : TVi) (now : TN) (p1 : Int32) (p2 : Int32) : Int32 := (if f_X8_noPerson village p1 = true then (-1) else (if f_X8_noHouse village p2 = true then (-1) else (if f_X8_has (f_X2_goals now village p1) p2 = true then f_X2_victim now village p1 p2 else (-3 : Int32))))
set_option maxHeartbeats 4000000 in
set_option maxRecDepth 100000 in
theorem c_X8_prey (g : GT) (w0 : Wd) (A : Nat → Nat) (hA : ∀ i j, i < 60 → j < 60 → A i = A j → i = j) (vi : Nat) (who_keptSlots : Int32) (who_seed : Int64) (village : TVi) (now : TN) (p1 : Int32) (p2 : Int32) (hvh : gVi_houses village ≤ 4) (hvp : gVi_people village ≤ 6) (h_who : w0 (A 0) = some (.inr (8, cWh A vi (who_keptSlots, who_seed)))) (h_village : w0 vi = some (.inr (7, cVi village))) (h_now : w0 (A 3) = some (.inr (2, cN now))) : CT g yX8_prey cX8_prey 3 (some .int) 4 86 0 0 w0 [.ref (A 0), .int p1, .int p2] (fun r w2 => r = some (.int (f_X8_prey village now p1 p2)) ∧ w0 = w2) := by
  refine CT.of (own := RX8) (by decide +kernel) rfl (Nat.le_of_ble_eq_true rfl) (fun X hC hR hI => ?_)
  show V g X 3 w0 0 0 0 [(0, .ref (A 0)), (1, .int p1), (2, .int p2)] []
  refine vv_aload_n hC 0 dX8_prey_0 rfl rfl ?_
  refine vv_iload_n hC 1 dX8_prey_1 rfl rfl ?_
  refine vv_callV hC dX8_prey_2 md_X8_noPerson lk_m_X8_134 lk_i_X8_noPerson lk_s_X8_noPerson h_who rfl (As := [.int p1]) (rest := []) (c_X8_noPerson g w0 A hA vi who_keptSlots who_seed village p1 h_who h_village) rfl rfl (Nat.le_of_ble_eq_true rfl) ⟨by decide, by decide, by decide, by decide⟩ (fun r w9 hq => ?_)
  obtain ⟨rfl, rfl⟩ := hq
  show V g X 3 w0 0 0 5 [(0, .ref (A 0)), (1, .int p1), (2, .int p2)] [.int (bI (f_X8_noPerson village p1))]
  refine vv_if_ne hC 16 dX8_prey_5 (by decide) (fun c1 => ?_) (fun c1 => ?_)
  · have c1 : f_X8_noPerson village p1 = true := bI_t c1
    refine vv_iconst (v := (-1)) hC dX8_prey_16 (by decide) ?_
    have hf : (f_X8_prey village now p1 p2) = (-1) := by first | (simp only [f_X8_prey, if_pos c1]; done) | rfl | (simp only [f_X8_prey, if_pos c1]; rfl)
    refine vv_iret hC hR rfl dX8_prey_17 (by omega) (by omega) ?_
    rw [hf]
    exact ⟨rfl, rfl⟩
  · have c1 : ¬ (f_X8_noPerson village p1 = true) := bI_f c1
    refine vv_aload_n hC 0 dX8_prey_8 rfl rfl ?_
    refine vv_iload_n hC 2 dX8_prey_9 rfl rfl ?_
    refine vv_callV hC dX8_prey_10 md_X8_noHouse lk_m_X8_107 lk_i_X8_noHouse lk_s_X8_noHouse h_who rfl (As := [.int p2]) (rest := []) (c_X8_noHouse g w0 A hA vi who_keptSlots who_seed village p2 h_who h_village) rfl rfl (Nat.le_of_ble_eq_true rfl) ⟨by decide, by decide, by decide, by decide⟩ (fun r w9 hq => ?_)
    obtain ⟨rfl, rfl⟩ := hq
    show V g X 3 w0 0 0 13 [(0, .ref (A 0)), (1, .int p1), (2, .int p2)] [.int (bI (f_X8_noHouse village p2))]
    refine vv_if_eq hC 18 dX8_prey_13 (by decide) (fun c2 => ?_) (fun c2 => ?_)
    · have c2 : ¬ (f_X8_noHouse village p2 = true) := bI_f c2
      refine vv_aload_n hC 0 dX8_prey_18 rfl rfl ?_
      refine vv_get (v := .ref (A 3)) hC fl_X8_26 dX8_prey_19 h_who rfl ?_
      refine vv_aload_n hC 0 dX8_prey_22 rfl rfl ?_
      refine vv_get (v := .ref vi) hC fl_X8_19 dX8_prey_23 h_who rfl ?_
      refine vv_iload_n hC 1 dX8_prey_26 rfl rfl ?_
      refine vv_callV hC dX8_prey_27 md_X2_goals lk_m_X8_162 lk_i_X2_goals lk_s_X2_goals h_now rfl (As := [.ref vi, .int p1]) (rest := []) (c_X2_goals g w0 (A 3) vi now village p1 h_now h_village) rfl rfl (Nat.le_of_ble_eq_true rfl) ⟨by decide, by decide, by decide, by decide⟩ (fun r w9 hq => ?_)
      obtain ⟨rfl, rfl⟩ := hq
      show V g X 3 w0 0 0 30 [(0, .ref (A 0)), (1, .int p1), (2, .int p2)] [.int (f_X2_goals now village p1)]
      refine vv_iload_n hC 2 dX8_prey_30 rfl rfl ?_
      refine vv_callS hC dX8_prey_31 md_X8_has lk_m_X8_166 lk_t_X8_has (As := [.int (f_X2_goals now village p1), .int p2]) (rest := []) (c_X8_has g w0 (f_X2_goals now village p1) p2) rfl rfl (Nat.le_of_ble_eq_true rfl) ⟨by decide, by decide, by decide, by decide⟩ (fun r w9 hq => ?_)
      obtain ⟨rfl, rfl⟩ := hq
      show V g X 3 w0 0 0 34 [(0, .ref (A 0)), (1, .int p1), (2, .int p2)] [.int (bI (f_X8_has (f_X2_goals now village p1) p2))]
      have hJ4 : V g X 3 w0 0 0 55 [(0, .ref (A 0)), (1, .int p1), (2, .int p2)] [.int (if f_X8_has (f_X2_goals now village p1) p2 = true then f_X2_victim now village p1 p2 else (-3 : Int32))] := by
        have hf : (f_X8_prey village now p1 p2) = (if f_X8_has (f_X2_goals now village p1) p2 = true then f_X2_victim now village p1 p2 else (-3 : Int32)) := by first | (simp only [f_X8_prey, if_neg c1, if_neg c2]; done) | rfl | (simp only [f_X8_prey, if_neg c1, if_neg c2]; rfl)
        refine vv_iret hC hR rfl dX8_prey_55 (by omega) (by omega) ?_
        rw [hf]
        exact ⟨rfl, rfl⟩
      refine vv_if_eq hC 53 dX8_prey_34 (by decide) (fun c3 => ?_) (fun c3 => ?_)
      · have c3 : ¬ (f_X8_has (f_X2_goals now village p1) p2 = true) := bI_f c3
        refine vv_bipush (v := (-3)) hC dX8_prey_53 (by decide) ?_
        have hz := hJ4
        try simp only [if_neg c3] at hz
        first | exact hz | (simp only [if_neg c3]; exact hz)
      · have c3 : f_X8_has (f_X2_goals now village p1) p2 = true := bI_t c3
        refine vv_aload_n hC 0 dX8_prey_37 rfl rfl ?_
        refine vv_get (v := .ref (A 3)) hC fl_X8_26 dX8_prey_38 h_who rfl ?_
        refine vv_aload_n hC 0 dX8_prey_41 rfl rfl ?_
        refine vv_get (v := .ref vi) hC fl_X8_19 dX8_prey_42 h_who rfl ?_
        refine vv_iload_n hC 1 dX8_prey_45 rfl rfl ?_
        refine vv_iload_n hC 2 dX8_prey_46 rfl rfl ?_
        refine vv_callV hC dX8_prey_47 md_X2_victim lk_m_X8_170 lk_i_X2_victim lk_s_X2_victim h_now rfl (As := [.ref vi, .int p1, .int p2]) (rest := []) (c_X2_victim g w0 (A 3) vi now village p1 p2 (by omega) (by omega) h_now h_village) rfl rfl (Nat.le_of_ble_eq_true rfl) ⟨by decide, by decide, by decide, by decide⟩ (fun r w9 hq => ?_)
        obtain ⟨rfl, rfl⟩ := hq
        show V g X 3 w0 0 0 50 [(0, .ref (A 0)), (1, .int p1), (2, .int p2)] [.int (f_X2_victim now village p1 p2)]
        refine vv_goto hC 55 dX8_prey_50 (by decide) ?_
        have hz := hJ4
        try simp only [if_pos c3] at hz
        first | exact hz | (simp only [if_pos c3]; exact hz)
    · have c2 : f_X8_noHouse village p2 = true := bI_t c2
      refine vv_iconst (v := (-1)) hC dX8_prey_16 (by decide) ?_
      have hf : (f_X8_prey village now p1 p2) = (-1) := by first | (simp only [f_X8_prey, if_neg c1, if_pos c2]; done) | rfl | (simp only [f_X8_prey, if_neg c1, if_pos c2]; rfl)
      refine vv_iret hC hR rfl dX8_prey_17 (by omega) (by omega) ?_
      rw [hf]
      exact ⟨rfl, rfl⟩
def f_X8_first (village : TVi) (now : TN) (p1 : Int32) : Int32 := (if f_X8_noPerson village p1 = true then (-1 : Int32) else f_X2_firstOf now p1)
set_option maxHeartbeats 4000000 in
set_option maxRecDepth 100000 in
theorem c_X8_first (g : GT) (w0 : Wd) (A : Nat → Nat) (hA : ∀ i j, i < 60 → j < 60 → A i = A j → i = j) (vi : Nat) (who_keptSlots : Int32) (who_seed : Int64) (village : TVi) (now : TN) (p1 : Int32) (h_who : w0 (A 0) = some (.inr (8, cWh A vi (who_keptSlots, who_seed)))) (h_village : w0 vi = some (.inr (7, cVi village))) (h_now : w0 (A 3) = some (.inr (2, cN now))) : CT g yX8_first cX8_first 2 (some .int) 3 67 0 0 w0 [.ref (A 0), .int p1] (fun r w2 => r = some (.int (f_X8_first village now p1)) ∧ w0 = w2) := by
  refine CT.of (own := RX8) (by decide +kernel) rfl (Nat.le_of_ble_eq_true rfl) (fun X hC hR hI => ?_)
  show V g X 2 w0 0 0 0 [(0, .ref (A 0)), (1, .int p1)] []
  refine vv_aload_n hC 0 dX8_first_0 rfl rfl ?_
  refine vv_iload_n hC 1 dX8_first_1 rfl rfl ?_
  refine vv_callV hC dX8_first_2 md_X8_noPerson lk_m_X8_134 lk_i_X8_noPerson lk_s_X8_noPerson h_who rfl (As := [.int p1]) (rest := []) (c_X8_noPerson g w0 A hA vi who_keptSlots who_seed village p1 h_who h_village) rfl rfl (Nat.le_of_ble_eq_true rfl) ⟨by decide, by decide, by decide, by decide⟩ (fun r w9 hq => ?_)
  obtain ⟨rfl, rfl⟩ := hq
  show V g X 2 w0 0 0 5 [(0, .ref (A 0)), (1, .int p1)] [.int (bI (f_X8_noPerson village p1))]
  have hJ2 : V g X 2 w0 0 0 20 [(0, .ref (A 0)), (1, .int p1)] [.int (if f_X8_noPerson village p1 = true then (-1 : Int32) else f_X2_firstOf now p1)] := by
    have hf : (f_X8_first village now p1) = (if f_X8_noPerson village p1 = true then (-1 : Int32) else f_X2_firstOf now p1) := by first | (simp only [f_X8_first]; done) | rfl | (simp only [f_X8_first]; rfl)
    refine vv_iret hC hR rfl dX8_first_20 (by omega) (by omega) ?_
    rw [hf]
    exact ⟨rfl, rfl⟩
  refine vv_if_eq hC 12 dX8_first_5 (by decide) (fun c1 => ?_) (fun c1 => ?_)
  · have c1 : ¬ (f_X8_noPerson village p1 = true) := bI_f c1
    refine vv_aload_n hC 0 dX8_first_12 rfl rfl ?_
    refine vv_get (v := .ref (A 3)) hC fl_X8_26 dX8_first_13 h_who rfl ?_
    refine vv_iload_n hC 1 dX8_first_16 rfl rfl ?_
    refine vv_callV hC dX8_first_17 md_X2_firstOf lk_m_X8_207 lk_i_X2_firstOf lk_s_X2_firstOf h_now rfl (As := [.int p1]) (rest := []) (c_X2_firstOf g w0 (A 3) now p1 h_now) rfl rfl (Nat.le_of_ble_eq_true rfl) ⟨by decide, by decide, by decide, by decide⟩ (fun r w9 hq => ?_)
    obtain ⟨rfl, rfl⟩ := hq
    show V g X 2 w0 0 0 20 [(0, .ref (A 0)), (1, .int p1)] [.int (f_X2_firstOf now p1)]
    have hz := hJ2
    try simp only [if_neg c1] at hz
    first | exact hz | (simp only [if_neg c1]; exact hz)
  · have c1 : f_X8_noPerson village p1 = true := bI_t c1
    refine vv_iconst (v := (-1)) hC dX8_first_8 (by decide) ?_
    refine vv_goto hC 20 dX8_first_9 (by decide) ?_
    have hz := hJ2
    try simp only [if_pos c1] at hz
    first | exact hz | (simp only [if_pos c1]; exact hz)
def f_X8_line (village : TVi) (now : TN) (p1 : Int32) : Int32 := (if f_X8_noPerson village p1 = true then (-1 : Int32) else f_X2_bitesAhead now p1)
set_option maxHeartbeats 4000000 in
set_option maxRecDepth 100000 in
theorem c_X8_line (g : GT) (w0 : Wd) (A : Nat → Nat) (hA : ∀ i j, i < 60 → j < 60 → A i = A j → i = j) (vi : Nat) (who_keptSlots : Int32) (who_seed : Int64) (village : TVi) (now : TN) (p1 : Int32) (h_who : w0 (A 0) = some (.inr (8, cWh A vi (who_keptSlots, who_seed)))) (h_village : w0 vi = some (.inr (7, cVi village))) (h_now : w0 (A 3) = some (.inr (2, cN now))) : CT g yX8_line cX8_line 2 (some .int) 3 68 0 0 w0 [.ref (A 0), .int p1] (fun r w2 => r = some (.int (f_X8_line village now p1)) ∧ w0 = w2) := by
  refine CT.of (own := RX8) (by decide +kernel) rfl (Nat.le_of_ble_eq_true rfl) (fun X hC hR hI => ?_)
  show V g X 2 w0 0 0 0 [(0, .ref (A 0)), (1, .int p1)] []
  refine vv_aload_n hC 0 dX8_line_0 rfl rfl ?_
  refine vv_iload_n hC 1 dX8_line_1 rfl rfl ?_
  refine vv_callV hC dX8_line_2 md_X8_noPerson lk_m_X8_134 lk_i_X8_noPerson lk_s_X8_noPerson h_who rfl (As := [.int p1]) (rest := []) (c_X8_noPerson g w0 A hA vi who_keptSlots who_seed village p1 h_who h_village) rfl rfl (Nat.le_of_ble_eq_true rfl) ⟨by decide, by decide, by decide, by decide⟩ (fun r w9 hq => ?_)
  obtain ⟨rfl, rfl⟩ := hq
  show V g X 2 w0 0 0 5 [(0, .ref (A 0)), (1, .int p1)] [.int (bI (f_X8_noPerson village p1))]
  have hJ2 : V g X 2 w0 0 0 20 [(0, .ref (A 0)), (1, .int p1)] [.int (if f_X8_noPerson village p1 = true then (-1 : Int32) else f_X2_bitesAhead now p1)] := by
    have hf : (f_X8_line village now p1) = (if f_X8_noPerson village p1 = true then (-1 : Int32) else f_X2_bitesAhead now p1) := by first | (simp only [f_X8_line]; done) | rfl | (simp only [f_X8_line]; rfl)
    refine vv_iret hC hR rfl dX8_line_20 (by omega) (by omega) ?_
    rw [hf]
    exact ⟨rfl, rfl⟩
  refine vv_if_eq hC 12 dX8_line_5 (by decide) (fun c1 => ?_) (fun c1 => ?_)
  · have c1 : ¬ (f_X8_noPerson village p1 = true) := bI_f c1
    refine vv_aload_n hC 0 dX8_line_12 rfl rfl ?_
    refine vv_get (v := .ref (A 3)) hC fl_X8_26 dX8_line_13 h_who rfl ?_
    refine vv_iload_n hC 1 dX8_line_16 rfl rfl ?_
    refine vv_callV hC dX8_line_17 md_X2_bitesAhead lk_m_X8_210 lk_i_X2_bitesAhead lk_s_X2_bitesAhead h_now rfl (As := [.int p1]) (rest := []) (c_X2_bitesAhead g w0 (A 3) now p1 h_now) rfl rfl (Nat.le_of_ble_eq_true rfl) ⟨by decide, by decide, by decide, by decide⟩ (fun r w9 hq => ?_)
    obtain ⟨rfl, rfl⟩ := hq
    show V g X 2 w0 0 0 20 [(0, .ref (A 0)), (1, .int p1)] [.int (f_X2_bitesAhead now p1)]
    have hz := hJ2
    try simp only [if_neg c1] at hz
    first | exact hz | (simp only [if_neg c1]; exact hz)
  · have c1 : f_X8_noPerson village p1 = true := bI_t c1
    refine vv_iconst (v := (-1)) hC dX8_line_8 (by decide) ?_
    refine vv_goto hC 20 dX8_line_9 (by decide) ?_
    have hz := hJ2
    try simp only [if_pos c1] at hz
    first | exact hz | (simp only [if_pos c1]; exact hz)
def f_X8_brood_L14 (now : TN) (p1 : Int32) : Nat → Nat → Int32 → Int32
  | 0, k14, l2_14 => l2_14
  | r14 + 1, k14, l2_14 => f_X8_brood_L14 now p1 r14 (k14 + 1) (if f_X2_firstOf now (nI k14) = p1 then (l2_14 ||| f_X8_bit (nI k14)) else l2_14)
def f_X8_brood (village : TVi) (now : TN) (p1 : Int32) : Int32 := (if f_X8_noPerson village p1 = true then (-1) else (f_X8_brood_L14 now p1 (gVi_people village) 0 0))
set_option maxHeartbeats 4000000 in
set_option maxRecDepth 100000 in
theorem c_X8_brood (g : GT) (w0 : Wd) (A : Nat → Nat) (hA : ∀ i j, i < 60 → j < 60 → A i = A j → i = j) (vi : Nat) (who_keptSlots : Int32) (who_seed : Int64) (village : TVi) (now : TN) (p1 : Int32) (hvh : gVi_houses village ≤ 4) (hvp : gVi_people village ≤ 6) (h_who : w0 (A 0) = some (.inr (8, cWh A vi (who_keptSlots, who_seed)))) (h_village : w0 vi = some (.inr (7, cVi village))) (h_now : w0 (A 3) = some (.inr (2, cN now))) : CT g yX8_brood cX8_brood 4 (some .int) 3 67 0 0 w0 [.ref (A 0), .int p1] (fun r w2 => r = some (.int (f_X8_brood village now p1)) ∧ w0 = w2) := by
  refine CT.of (own := RX8) (by decide +kernel) rfl (Nat.le_of_ble_eq_true rfl) (fun X hC hR hI => ?_)
  show V g X 4 w0 0 0 0 [(0, .ref (A 0)), (1, .int p1)] []
  refine vv_aload_n hC 0 dX8_brood_0 rfl rfl ?_
  refine vv_iload_n hC 1 dX8_brood_1 rfl rfl ?_
  refine vv_callV hC dX8_brood_2 md_X8_noPerson lk_m_X8_134 lk_i_X8_noPerson lk_s_X8_noPerson h_who rfl (As := [.int p1]) (rest := []) (c_X8_noPerson g w0 A hA vi who_keptSlots who_seed village p1 h_who h_village) rfl rfl (Nat.le_of_ble_eq_true rfl) ⟨by decide, by decide, by decide, by decide⟩ (fun r w9 hq => ?_)
  obtain ⟨rfl, rfl⟩ := hq
  show V g X 4 w0 0 0 5 [(0, .ref (A 0)), (1, .int p1)] [.int (bI (f_X8_noPerson village p1))]
  refine vv_if_eq hC 10 dX8_brood_5 (by decide) (fun c1 => ?_) (fun c1 => ?_)
  · have c1 : ¬ (f_X8_noPerson village p1 = true) := bI_f c1
    refine vv_iconst (v := 0) hC dX8_brood_10 (by decide) ?_
    refine vv_istore_n (lv2 := [(2, .int 0), (0, .ref (A 0)), (1, .int p1)]) hC dX8_brood_11 rfl (by decide) rfl ?_
    refine vv_iconst (v := 0) hC dX8_brood_12 (by decide) ?_
    refine vv_istore_n (lv2 := [(3, .int 0), (2, .int 0), (0, .ref (A 0)), (1, .int p1)]) hC dX8_brood_13 rfl (by decide) rfl ?_
    have hL4 : ∀ (r14 k14 : Nat) (l2_14 : Int32) (out : Int32), k14 + r14 = gVi_people village → out = f_X8_brood_L14 now p1 r14 k14 l2_14 → V g X 4 w0 0 0 50 [(0, .ref (A 0)), (1, .int p1), (2, .int out)] [] → V g X 4 w0 0 0 14 [(0, .ref (A 0)), (1, .int p1), (2, .int l2_14), (3, .int (nI k14))] [] := by
      intro r14
      induction r14 with
      | zero =>
        intro k14 l2_14 out hb ho hk
        refine vv_iload_n hC 3 dX8_brood_14 rfl rfl ?_
        refine vv_aload_n hC 0 dX8_brood_15 rfl rfl ?_
        refine vv_get (v := .ref vi) hC fl_X8_19 dX8_brood_16 h_who rfl ?_
        refine vv_getN (v := .int (nI (gVi_people village))) hC fl_X8_104 dX8_brood_19 h_village rfl ?_
        refine vv_icmp_ge hC 50 dX8_brood_22 (by decide) (fun c => ?_) (fun c => False.elim (c ((nI_le_ (a := gVi_people village) (b := k14) (by omega) (by omega)).mpr (by omega))))
        refine vv_lv [0, 1, 2] rfl ?_
        have ho := ho.trans (by first | (simp only [f_X8_brood_L14]; done) | rfl | (simp only [f_X8_brood_L14]; rfl) : _ = l2_14)
        subst ho
        exact hk
      | succ r14 ih =>
        intro k14 l2_14 out hb ho hk
        refine vv_iload_n hC 3 dX8_brood_14 rfl rfl ?_
        refine vv_aload_n hC 0 dX8_brood_15 rfl rfl ?_
        refine vv_get (v := .ref vi) hC fl_X8_19 dX8_brood_16 h_who rfl ?_
        refine vv_getN (v := .int (nI (gVi_people village))) hC fl_X8_104 dX8_brood_19 h_village rfl ?_
        refine vv_icmp_ge hC 50 dX8_brood_22 (by decide) (fun c => absurd ((nI_le_ (a := gVi_people village) (b := k14) (by omega) (by omega)).mp c) (by first | omega | decide)) (fun c => ?_)
        refine vv_aload_n hC 0 dX8_brood_25 rfl rfl ?_
        refine vv_get (v := .ref (A 3)) hC fl_X8_26 dX8_brood_26 h_who rfl ?_
        refine vv_iload_n hC 3 dX8_brood_29 rfl rfl ?_
        refine vv_callV hC dX8_brood_30 md_X2_firstOf lk_m_X8_207 lk_i_X2_firstOf lk_s_X2_firstOf h_now rfl (As := [.int (nI k14)]) (rest := []) (c_X2_firstOf g w0 (A 3) now (nI k14) h_now) rfl rfl (Nat.le_of_ble_eq_true rfl) ⟨by decide, by decide, by decide, by decide⟩ (fun r w9 hq => ?_)
        obtain ⟨rfl, rfl⟩ := hq
        show V g X 4 w0 0 0 33 [(0, .ref (A 0)), (1, .int p1), (2, .int l2_14), (3, .int (nI k14))] [.int (f_X2_firstOf now (nI k14))]
        refine vv_iload_n hC 1 dX8_brood_33 rfl rfl ?_
        have hJ3 : V g X 4 w0 0 0 44 [(0, .ref (A 0)), (1, .int p1), (2, .int (if f_X2_firstOf now (nI k14) = p1 then (l2_14 ||| f_X8_bit (nI k14)) else l2_14)), (3, .int (nI k14))] [] := by
          refine vv_iinc (lv2 := [(3, .int (nI (k14 + 1))), (0, .ref (A 0)), (1, .int p1), (2, .int (if f_X2_firstOf now (nI k14) = p1 then (l2_14 ||| f_X8_bit (nI k14)) else l2_14))]) hC 3 dX8_brood_44 rfl (nI_add k14 1) (by decide) rfl ?_
          refine vv_goto hC 14 dX8_brood_47 (by decide) ?_
          refine vv_lv [1, 2, 3, 0] rfl ?_
          exact ih (k14 + 1) (if f_X2_firstOf now (nI k14) = p1 then (l2_14 ||| f_X8_bit (nI k14)) else l2_14) out (by omega) (ho.trans (by first | (simp only [f_X8_brood_L14]; done) | rfl | (simp only [f_X8_brood_L14]; rfl))) hk
        refine vv_icmp_ne hC 44 dX8_brood_34 (by decide) (fun c2 => ?_) (fun c2 => ?_)
        · have c2 : ¬ (f_X2_firstOf now (nI k14) = p1) := c2
          have hz := hJ3
          try simp only [if_neg c2] at hz
          first | exact hz | (simp only [if_neg c2]; exact hz)
        · have c2 : f_X2_firstOf now (nI k14) = p1 := c2
          refine vv_iload_n hC 2 dX8_brood_37 rfl rfl ?_
          refine vv_iload_n hC 3 dX8_brood_38 rfl rfl ?_
          refine vv_callS hC dX8_brood_39 md_X8_bit lk_m_X8_184 lk_t_X8_bit (As := [.int (nI k14)]) (rest := [.int l2_14]) (c_X8_bit g w0 (nI k14)) rfl rfl (Nat.le_of_ble_eq_true rfl) ⟨by decide, by decide, by decide, by decide⟩ (fun r w9 hq => ?_)
          obtain ⟨rfl, rfl⟩ := hq
          show V g X 4 w0 0 0 42 [(0, .ref (A 0)), (1, .int p1), (2, .int l2_14), (3, .int (nI k14))] [.int (f_X8_bit (nI k14)), .int l2_14]
          refine vv_ior hC dX8_brood_42 ?_
          refine vv_istore_n (lv2 := [(2, .int (l2_14 ||| f_X8_bit (nI k14))), (0, .ref (A 0)), (1, .int p1), (3, .int (nI k14))]) hC dX8_brood_43 rfl (by decide) rfl ?_
          refine vv_lv [1, 2, 0, 3] rfl ?_
          have hz := hJ3
          try simp only [if_pos c2] at hz
          first | exact hz | (simp only [if_pos c2]; exact hz)
    refine vv_lv [2, 3, 1, 0] rfl ?_
    refine hL4 (gVi_people village) 0 0 (f_X8_brood_L14 now p1 (gVi_people village) 0 0) (by omega) rfl ?_
    refine vv_iload_n hC 2 dX8_brood_50 rfl rfl ?_
    have hf : (f_X8_brood village now p1) = (f_X8_brood_L14 now p1 (gVi_people village) 0 0) := by first | (simp only [f_X8_brood, if_neg c1]; done) | rfl | (simp only [f_X8_brood, if_neg c1]; rfl)
    refine vv_iret hC hR rfl dX8_brood_51 (by omega) (by omega) ?_
    rw [hf]
    exact ⟨rfl, rfl⟩
  · have c1 : f_X8_noPerson village p1 = true := bI_t c1
    refine vv_iconst (v := (-1)) hC dX8_brood_8 (by decide) ?_
    have hf : (f_X8_brood village now p1) = (-1) := by first | (simp only [f_X8_brood, if_pos c1]; done) | rfl | (simp only [f_X8_brood, if_pos c1]; rfl)
    refine vv_iret hC hR rfl dX8_brood_9 (by omega) (by omega) ?_
    rw [hf]
    exact ⟨rfl, rfl⟩
def f_X8_track (village : TVi) (sights_count : Nat) (kinds : Nat → Int32) (moons : Nat → Int32) (places : Nat → Int32) (values : Nat → Int32) (p1 : Int32) (p2 : Int32) (p3 : Int32) : Int32 × Nat × (Nat → Int32) × (Nat → Int32) × (Nat → Int32) × (Nat → Int32) := (if f_X8_noHouse village p2 = true then ((-1), sights_count, kinds, moons, places, values) else (if f_X8_noMoon p1 = true then ((-2), sights_count, kinds, moons, places, values) else (if p3 < 0 then ((-2), sights_count, kinds, moons, places, values) else (if p3 ≤ 6 then ((f_X4_add sights_count kinds moons places values 0 p1 p2 p3).1, (f_X4_add sights_count kinds moons places values 0 p1 p2 p3).2.1, (f_X4_add sights_count kinds moons places values 0 p1 p2 p3).2.2.1, (f_X4_add sights_count kinds moons places values 0 p1 p2 p3).2.2.2.1, (f_X4_add sights_count kinds moons places values 0 p1 p2 p3).2.2.2.2.1, (f_X4_add sights_count kinds moons places values 0 p1 p2 p3).2.2.2.2.2) else ((-2), sights_count, kinds, moons, places, values)))))
set_option maxHeartbeats 4000000 in
set_option maxRecDepth 100000 in
theorem c_X8_track (g : GT) (w0 : Wd) (A : Nat → Nat) (hA : ∀ i j, i < 60 → j < 60 → A i = A j → i = j) (vi : Nat) (who_keptSlots : Int32) (who_seed : Int64) (village : TVi) (sights_count : Nat) (kinds : Nat → Int32) (moons : Nat → Int32) (places : Nat → Int32) (values : Nat → Int32) (p1 : Int32) (p2 : Int32) (p3 : Int32) (hsc : sights_count ≤ 6) (h_who : w0 (A 0) = some (.inr (8, cWh A vi (who_keptSlots, who_seed)))) (h_village : w0 vi = some (.inr (7, cVi village))) (h_sights : w0 (A 8) = some (.inr (4, cSi (A 9) (A 10) (A 11) (A 12) sights_count))) (h_kinds : w0 (A 9) = some (.inl (g.2.2.1 0, 6, .inl kinds))) (h_moons : w0 (A 10) = some (.inl (g.2.2.1 0, 6, .inl moons))) (h_places : w0 (A 11) = some (.inl (g.2.2.1 0, 6, .inl places))) (h_values : w0 (A 12) = some (.inl (g.2.2.1 0, 6, .inl values))) : CT g yX8_track cX8_track 4 (some .int) 2 46 0 0 w0 [.ref (A 0), .int p1, .int p2, .int p3] (fun r w2 => r = some (.int ((f_X8_track village sights_count kinds moons places values p1 p2 p3).1)) ∧ w2 (A 8) = some (.inr (4, cSi (A 9) (A 10) (A 11) (A 12) ((f_X8_track village sights_count kinds moons places values p1 p2 p3).2.1))) ∧ w2 (A 9) = some (.inl (g.2.2.1 0, 6, .inl ((f_X8_track village sights_count kinds moons places values p1 p2 p3).2.2.1))) ∧ w2 (A 10) = some (.inl (g.2.2.1 0, 6, .inl ((f_X8_track village sights_count kinds moons places values p1 p2 p3).2.2.2.1))) ∧ w2 (A 11) = some (.inl (g.2.2.1 0, 6, .inl ((f_X8_track village sights_count kinds moons places values p1 p2 p3).2.2.2.2.1))) ∧ w2 (A 12) = some (.inl (g.2.2.1 0, 6, .inl ((f_X8_track village sights_count kinds moons places values p1 p2 p3).2.2.2.2.2))) ∧ wE (fun q => q = (A 8) ∨ q = (A 9) ∨ q = (A 10) ∨ q = (A 11) ∨ q = (A 12)) w0 w2) := by
  refine CT.of (own := RX8) (by decide +kernel) rfl (Nat.le_of_ble_eq_true rfl) (fun X hC hR hI => ?_)
  show V g X 4 w0 0 0 0 [(0, .ref (A 0)), (1, .int p1), (2, .int p2), (3, .int p3)] []
  have hE : wE (fun q => q = (A 8) ∨ q = (A 9) ∨ q = (A 10) ∨ q = (A 11) ∨ q = (A 12)) w0 w0 := wE.refl
  refine vv_aload_n hC 0 dX8_track_0 rfl rfl ?_
  refine vv_iload_n hC 2 dX8_track_1 rfl rfl ?_
  refine vv_callV hC dX8_track_2 md_X8_noHouse lk_m_X8_107 lk_i_X8_noHouse lk_s_X8_noHouse h_who rfl (As := [.int p2]) (rest := []) (c_X8_noHouse g w0 A hA vi who_keptSlots who_seed village p2 h_who h_village) rfl rfl (Nat.le_of_ble_eq_true rfl) ⟨by decide, by decide, by decide, by decide⟩ (fun r w9 hq => ?_)
  obtain ⟨rfl, rfl⟩ := hq
  show V g X 4 w0 0 0 5 [(0, .ref (A 0)), (1, .int p1), (2, .int p2), (3, .int p3)] [.int (bI (f_X8_noHouse village p2))]
  refine vv_if_eq hC 10 dX8_track_5 (by decide) (fun c1 => ?_) (fun c1 => ?_)
  · have c1 : ¬ (f_X8_noHouse village p2 = true) := bI_f c1
    refine vv_iload_n hC 1 dX8_track_10 rfl rfl ?_
    refine vv_callS hC dX8_track_11 md_X8_noMoon lk_m_X8_213 lk_t_X8_noMoon (As := [.int p1]) (rest := []) (c_X8_noMoon g w0 p1) rfl rfl (Nat.le_of_ble_eq_true rfl) ⟨by decide, by decide, by decide, by decide⟩ (fun r w9 hq => ?_)
    obtain ⟨rfl, rfl⟩ := hq
    show V g X 4 w0 0 0 14 [(0, .ref (A 0)), (1, .int p1), (2, .int p2), (3, .int p3)] [.int (bI (f_X8_noMoon p1))]
    refine vv_if_ne hC 27 dX8_track_14 (by decide) (fun c2 => ?_) (fun c2 => ?_)
    · have c2 : f_X8_noMoon p1 = true := bI_t c2
      refine vv_bipush (v := (-2)) hC dX8_track_27 (by decide) ?_
      have hf : (f_X8_track village sights_count kinds moons places values p1 p2 p3) = ((-2), sights_count, kinds, moons, places, values) := by first | (simp only [f_X8_track, if_neg c1, if_pos c2]; done) | rfl | (simp only [f_X8_track, if_neg c1, if_pos c2]; rfl)
      refine vv_iret hC hR rfl dX8_track_29 (by omega) (by omega) ?_
      rw [hf]
      try dsimp only
      exact ⟨rfl, h_sights, h_kinds, h_moons, h_places, h_values, hE⟩
    · have c2 : ¬ (f_X8_noMoon p1 = true) := bI_f c2
      refine vv_iload_n hC 3 dX8_track_17 rfl rfl ?_
      refine vv_if_lt hC 27 dX8_track_18 (by decide) (fun c3 => ?_) (fun c3 => ?_)
      · have c3 : p3 < 0 := c3
        refine vv_bipush (v := (-2)) hC dX8_track_27 (by decide) ?_
        have hf : (f_X8_track village sights_count kinds moons places values p1 p2 p3) = ((-2), sights_count, kinds, moons, places, values) := by first | (simp only [f_X8_track, if_neg c1, if_neg c2, if_pos c3]; done) | rfl | (simp only [f_X8_track, if_neg c1, if_neg c2, if_pos c3]; rfl)
        refine vv_iret hC hR rfl dX8_track_29 (by omega) (by omega) ?_
        rw [hf]
        try dsimp only
        exact ⟨rfl, h_sights, h_kinds, h_moons, h_places, h_values, hE⟩
      · have c3 : ¬ (p3 < 0) := c3
        refine vv_iload_n hC 3 dX8_track_21 rfl rfl ?_
        refine vv_bipush (v := (6)) hC dX8_track_22 (by decide) ?_
        refine vv_icmp_le hC 30 dX8_track_24 (by decide) (fun c4 => ?_) (fun c4 => ?_)
        · have c4 : p3 ≤ 6 := c4
          refine vv_aload_n hC 0 dX8_track_30 rfl rfl ?_
          refine vv_get (v := .ref (A 8)) hC fl_X8_51 dX8_track_31 h_who rfl ?_
          refine vv_iconst (v := 0) hC dX8_track_34 (by decide) ?_
          refine vv_iload_n hC 1 dX8_track_35 rfl rfl ?_
          refine vv_iload_n hC 2 dX8_track_36 rfl rfl ?_
          refine vv_iload_n hC 3 dX8_track_37 rfl rfl ?_
          refine vv_callV hC dX8_track_38 md_X4_add lk_m_X8_216 lk_i_X4_add lk_s_X4_add h_sights rfl (As := [.int 0, .int p1, .int p2, .int p3]) (rest := []) (c_X4_add g w0 (A 8) (A 9) (A 10) (A 11) (A 12) sights_count kinds moons places values 0 p1 p2 p3 (by omega) h_sights h_kinds h_moons h_places h_values (fw_inj hA (by decide) (by decide) (by decide)) (fw_inj hA (by decide) (by decide) (by decide)) (fw_inj hA (by decide) (by decide) (by decide)) (fw_inj hA (by decide) (by decide) (by decide)) (fw_inj hA (by decide) (by decide) (by decide)) (fw_inj hA (by decide) (by decide) (by decide))) rfl rfl (Nat.le_of_ble_eq_true rfl) ⟨by decide, by decide, by decide, by decide⟩ (fun r w9 hq => ?_)
          obtain ⟨rfl, t1, t2, t3, t4, t5, hs⟩ := hq
          obtain ⟨w5, rfl⟩ : ∃ z, z = w9 := ⟨_, rfl⟩
          have h_who := hs _ _ (fun z => z.elim (fw_oo h_who h_sights (by decide)) (fun z => z.elim (fw_oa h_who h_kinds) (fun z => z.elim (fw_oa h_who h_moons) (fun z => z.elim (fw_oa h_who h_places) (fw_oa h_who h_values))))) h_who
          have h_village := hs _ _ (fun z => z.elim (fw_oo h_village h_sights (by decide)) (fun z => z.elim (fw_oa h_village h_kinds) (fun z => z.elim (fw_oa h_village h_moons) (fun z => z.elim (fw_oa h_village h_places) (fw_oa h_village h_values))))) h_village
          have h_sights := t1
          have h_kinds := t2
          have h_moons := t3
          have h_places := t4
          have h_values := t5
          have hE := hE.trans (hs.mono (fun _ z => z.elim (fun z => (Or.inl z)) (fun z => z.elim (fun z => (Or.inr (Or.inl z))) (fun z => z.elim (fun z => (Or.inr (Or.inr (Or.inl z)))) (fun z => z.elim (fun z => (Or.inr (Or.inr (Or.inr (Or.inl z))))) (fun z => (Or.inr (Or.inr (Or.inr (Or.inr z))))))))))
          show V g X 4 w5 0 0 41 [(0, .ref (A 0)), (1, .int p1), (2, .int p2), (3, .int p3)] [.int ((f_X4_add sights_count kinds moons places values 0 p1 p2 p3).1)]
          have hf : (f_X8_track village sights_count kinds moons places values p1 p2 p3) = ((f_X4_add sights_count kinds moons places values 0 p1 p2 p3).1, (f_X4_add sights_count kinds moons places values 0 p1 p2 p3).2.1, (f_X4_add sights_count kinds moons places values 0 p1 p2 p3).2.2.1, (f_X4_add sights_count kinds moons places values 0 p1 p2 p3).2.2.2.1, (f_X4_add sights_count kinds moons places values 0 p1 p2 p3).2.2.2.2.1, (f_X4_add sights_count kinds moons places values 0 p1 p2 p3).2.2.2.2.2) := by first | (simp only [f_X8_track, if_neg c1, if_neg c2, if_neg c3, if_pos c4]; done) | rfl | (simp only [f_X8_track, if_neg c1, if_neg c2, if_neg c3, if_pos c4]; rfl)
          refine vv_iret hC hR rfl dX8_track_41 (by omega) (by omega) ?_
          rw [hf]
          try dsimp only
          exact ⟨rfl, h_sights, h_kinds, h_moons, h_places, h_values, hE⟩
        · have c4 : ¬ (p3 ≤ 6) := c4
          refine vv_bipush (v := (-2)) hC dX8_track_27 (by decide) ?_
          have hf : (f_X8_track village sights_count kinds moons places values p1 p2 p3) = ((-2), sights_count, kinds, moons, places, values) := by first | (simp only [f_X8_track, if_neg c1, if_neg c2, if_neg c3, if_neg c4]; done) | rfl | (simp only [f_X8_track, if_neg c1, if_neg c2, if_neg c3, if_neg c4]; rfl)
          refine vv_iret hC hR rfl dX8_track_29 (by omega) (by omega) ?_
          rw [hf]
          try dsimp only
          exact ⟨rfl, h_sights, h_kinds, h_moons, h_places, h_values, hE⟩
  · have c1 : f_X8_noHouse village p2 = true := bI_t c1
    refine vv_iconst (v := (-1)) hC dX8_track_8 (by decide) ?_
    have hf : (f_X8_track village sights_count kinds moons places values p1 p2 p3) = ((-1), sights_count, kinds, moons, places, values) := by first | (simp only [f_X8_track, if_pos c1]; done) | rfl | (simp only [f_X8_track, if_pos c1]; rfl)
    refine vv_iret hC hR rfl dX8_track_9 (by omega) (by omega) ?_
    rw [hf]
    try dsimp only
    exact ⟨rfl, h_sights, h_kinds, h_moons, h_places, h_values, hE⟩
def f_X8_hungry (village : TVi) (sights_count : Nat) (kinds : Nat → Int32) (moons : Nat → Int32) (places : Nat → Int32) (values : Nat → Int32) (p1 : Int32) (p2 : Int32) (p3 : Bool) : Int32 × Nat × (Nat → Int32) × (Nat → Int32) × (Nat → Int32) × (Nat → Int32) := (if f_X8_noPerson village p2 = true then ((-1), sights_count, kinds, moons, places, values) else (if f_X8_noMoon p1 = true then ((-2), sights_count, kinds, moons, places, values) else ((f_X4_add sights_count kinds moons places values 1 p1 p2 (bI (if p3 = true then true else false))).1, (f_X4_add sights_count kinds moons places values 1 p1 p2 (bI (if p3 = true then true else false))).2.1, (f_X4_add sights_count kinds moons places values 1 p1 p2 (bI (if p3 = true then true else false))).2.2.1, (f_X4_add sights_count kinds moons places values 1 p1 p2 (bI (if p3 = true then true else false))).2.2.2.1, (f_X4_add sights_count kinds moons places values 1 p1 p2 (bI (if p3 = true then true else false))).2.2.2.2.1, (f_X4_add sights_count kinds moons places values 1 p1 p2 (bI (if p3 = true then true else false))).2.2.2.2.2)))
set_option maxHeartbeats 4000000 in
set_option maxRecDepth 100000 in
theorem c_X8_hungry (g : GT) (w0 : Wd) (A : Nat → Nat) (hA : ∀ i j, i < 60 → j < 60 → A i = A j → i = j) (vi : Nat) (who_keptSlots : Int32) (who_seed : Int64) (village : TVi) (sights_count : Nat) (kinds : Nat → Int32) (moons : Nat → Int32) (places : Nat → Int32) (values : Nat → Int32) (p1 : Int32) (p2 : Int32) (p3 : Bool) (hsc : sights_count ≤ 6) (h_who : w0 (A 0) = some (.inr (8, cWh A vi (who_keptSlots, who_seed)))) (h_village : w0 vi = some (.inr (7, cVi village))) (h_sights : w0 (A 8) = some (.inr (4, cSi (A 9) (A 10) (A 11) (A 12) sights_count))) (h_kinds : w0 (A 9) = some (.inl (g.2.2.1 0, 6, .inl kinds))) (h_moons : w0 (A 10) = some (.inl (g.2.2.1 0, 6, .inl moons))) (h_places : w0 (A 11) = some (.inl (g.2.2.1 0, 6, .inl places))) (h_values : w0 (A 12) = some (.inl (g.2.2.1 0, 6, .inl values))) : CT g yX8_hungry cX8_hungry 4 (some .int) 2 46 0 0 w0 [.ref (A 0), .int p1, .int p2, .int (bI p3)] (fun r w2 => r = some (.int ((f_X8_hungry village sights_count kinds moons places values p1 p2 p3).1)) ∧ w2 (A 8) = some (.inr (4, cSi (A 9) (A 10) (A 11) (A 12) ((f_X8_hungry village sights_count kinds moons places values p1 p2 p3).2.1))) ∧ w2 (A 9) = some (.inl (g.2.2.1 0, 6, .inl ((f_X8_hungry village sights_count kinds moons places values p1 p2 p3).2.2.1))) ∧ w2 (A 10) = some (.inl (g.2.2.1 0, 6, .inl ((f_X8_hungry village sights_count kinds moons places values p1 p2 p3).2.2.2.1))) ∧ w2 (A 11) = some (.inl (g.2.2.1 0, 6, .inl ((f_X8_hungry village sights_count kinds moons places values p1 p2 p3).2.2.2.2.1))) ∧ w2 (A 12) = some (.inl (g.2.2.1 0, 6, .inl ((f_X8_hungry village sights_count kinds moons places values p1 p2 p3).2.2.2.2.2))) ∧ wE (fun q => q = (A 8) ∨ q = (A 9) ∨ q = (A 10) ∨ q = (A 11) ∨ q = (A 12)) w0 w2) := by
  refine CT.of (own := RX8) (by decide +kernel) rfl (Nat.le_of_ble_eq_true rfl) (fun X hC hR hI => ?_)
  show V g X 4 w0 0 0 0 [(0, .ref (A 0)), (1, .int p1), (2, .int p2), (3, .int (bI p3))] []
  have hE : wE (fun q => q = (A 8) ∨ q = (A 9) ∨ q = (A 10) ∨ q = (A 11) ∨ q = (A 12)) w0 w0 := wE.refl
  refine vv_aload_n hC 0 dX8_hungry_0 rfl rfl ?_
  refine vv_iload_n hC 2 dX8_hungry_1 rfl rfl ?_
  refine vv_callV hC dX8_hungry_2 md_X8_noPerson lk_m_X8_134 lk_i_X8_noPerson lk_s_X8_noPerson h_who rfl (As := [.int p2]) (rest := []) (c_X8_noPerson g w0 A hA vi who_keptSlots who_seed village p2 h_who h_village) rfl rfl (Nat.le_of_ble_eq_true rfl) ⟨by decide, by decide, by decide, by decide⟩ (fun r w9 hq => ?_)
  obtain ⟨rfl, rfl⟩ := hq
  show V g X 4 w0 0 0 5 [(0, .ref (A 0)), (1, .int p1), (2, .int p2), (3, .int (bI p3))] [.int (bI (f_X8_noPerson village p2))]
  refine vv_if_eq hC 10 dX8_hungry_5 (by decide) (fun c1 => ?_) (fun c1 => ?_)
  · have c1 : ¬ (f_X8_noPerson village p2 = true) := bI_f c1
    refine vv_iload_n hC 1 dX8_hungry_10 rfl rfl ?_
    refine vv_callS hC dX8_hungry_11 md_X8_noMoon lk_m_X8_213 lk_t_X8_noMoon (As := [.int p1]) (rest := []) (c_X8_noMoon g w0 p1) rfl rfl (Nat.le_of_ble_eq_true rfl) ⟨by decide, by decide, by decide, by decide⟩ (fun r w9 hq => ?_)
    obtain ⟨rfl, rfl⟩ := hq
    show V g X 4 w0 0 0 14 [(0, .ref (A 0)), (1, .int p1), (2, .int p2), (3, .int (bI p3))] [.int (bI (f_X8_noMoon p1))]
    refine vv_if_eq hC 20 dX8_hungry_14 (by decide) (fun c2 => ?_) (fun c2 => ?_)
    · have c2 : ¬ (f_X8_noMoon p1 = true) := bI_f c2
      refine vv_aload_n hC 0 dX8_hungry_20 rfl rfl ?_
      refine vv_get (v := .ref (A 8)) hC fl_X8_51 dX8_hungry_21 h_who rfl ?_
      refine vv_iconst (v := 1) hC dX8_hungry_24 (by decide) ?_
      refine vv_iload_n hC 1 dX8_hungry_25 rfl rfl ?_
      refine vv_iload_n hC 2 dX8_hungry_26 rfl rfl ?_
      refine vv_iload_n hC 3 dX8_hungry_27 rfl rfl ?_
      have hJ4 : V g X 4 w0 0 0 36 [(0, .ref (A 0)), (1, .int p1), (2, .int p2), (3, .int (bI p3))] [.int (bI (if p3 = true then true else false)), .int p2, .int p1, .int 1, .ref (A 8)] := by
        refine vv_callV hC dX8_hungry_36 md_X4_add lk_m_X8_216 lk_i_X4_add lk_s_X4_add h_sights rfl (As := [.int 1, .int p1, .int p2, .int (bI (if p3 = true then true else false))]) (rest := []) (c_X4_add g w0 (A 8) (A 9) (A 10) (A 11) (A 12) sights_count kinds moons places values 1 p1 p2 (bI (if p3 = true then true else false)) (by omega) h_sights h_kinds h_moons h_places h_values (fw_inj hA (by decide) (by decide) (by decide)) (fw_inj hA (by decide) (by decide) (by decide)) (fw_inj hA (by decide) (by decide) (by decide)) (fw_inj hA (by decide) (by decide) (by decide)) (fw_inj hA (by decide) (by decide) (by decide)) (fw_inj hA (by decide) (by decide) (by decide))) rfl rfl (Nat.le_of_ble_eq_true rfl) ⟨by decide, by decide, by decide, by decide⟩ (fun r w9 hq => ?_)
        obtain ⟨rfl, t1, t2, t3, t4, t5, hs⟩ := hq
        obtain ⟨w5, rfl⟩ : ∃ z, z = w9 := ⟨_, rfl⟩
        have h_who := hs _ _ (fun z => z.elim (fw_oo h_who h_sights (by decide)) (fun z => z.elim (fw_oa h_who h_kinds) (fun z => z.elim (fw_oa h_who h_moons) (fun z => z.elim (fw_oa h_who h_places) (fw_oa h_who h_values))))) h_who
        have h_village := hs _ _ (fun z => z.elim (fw_oo h_village h_sights (by decide)) (fun z => z.elim (fw_oa h_village h_kinds) (fun z => z.elim (fw_oa h_village h_moons) (fun z => z.elim (fw_oa h_village h_places) (fw_oa h_village h_values))))) h_village
        have h_sights := t1
        have h_kinds := t2
        have h_moons := t3
        have h_places := t4
        have h_values := t5
        have hE := hE.trans (hs.mono (fun _ z => z.elim (fun z => (Or.inl z)) (fun z => z.elim (fun z => (Or.inr (Or.inl z))) (fun z => z.elim (fun z => (Or.inr (Or.inr (Or.inl z)))) (fun z => z.elim (fun z => (Or.inr (Or.inr (Or.inr (Or.inl z))))) (fun z => (Or.inr (Or.inr (Or.inr (Or.inr z))))))))))
        show V g X 4 w5 0 0 39 [(0, .ref (A 0)), (1, .int p1), (2, .int p2), (3, .int (bI p3))] [.int ((f_X4_add sights_count kinds moons places values 1 p1 p2 (bI (if p3 = true then true else false))).1)]
        have hf : (f_X8_hungry village sights_count kinds moons places values p1 p2 p3) = ((f_X4_add sights_count kinds moons places values 1 p1 p2 (bI (if p3 = true then true else false))).1, (f_X4_add sights_count kinds moons places values 1 p1 p2 (bI (if p3 = true then true else false))).2.1, (f_X4_add sights_count kinds moons places values 1 p1 p2 (bI (if p3 = true then true else false))).2.2.1, (f_X4_add sights_count kinds moons places values 1 p1 p2 (bI (if p3 = true then true else false))).2.2.2.1, (f_X4_add sights_count kinds moons places values 1 p1 p2 (bI (if p3 = true then true else false))).2.2.2.2.1, (f_X4_add sights_count kinds moons places values 1 p1 p2 (bI (if p3 = true then true else false))).2.2.2.2.2) := by first | (simp only [f_X8_hungry, if_neg c1, if_neg c2]; done) | rfl | (simp only [f_X8_hungry, if_neg c1, if_neg c2]; rfl)
        refine vv_iret hC hR rfl dX8_hungry_39 (by omega) (by omega) ?_
        rw [hf]
        try dsimp only
        exact ⟨rfl, h_sights, h_kinds, h_moons, h_places, h_values, hE⟩
      refine vv_if_eq hC 35 dX8_hungry_28 (by decide) (fun c3 => ?_) (fun c3 => ?_)
      · have c3 : ¬ (p3 = true) := bI_f c3
        refine vv_iconst (v := 0) hC dX8_hungry_35 (by decide) ?_
        have hz := hJ4
        try simp only [if_neg c3] at hz
        first | exact hz | (simp only [if_neg c3]; exact hz)
      · have c3 : p3 = true := bI_t c3
        refine vv_iconst (v := 1) hC dX8_hungry_31 (by decide) ?_
        refine vv_goto hC 36 dX8_hungry_32 (by decide) ?_
        have hz := hJ4
        try simp only [if_pos c3] at hz
        first | exact hz | (simp only [if_pos c3]; exact hz)
    · have c2 : f_X8_noMoon p1 = true := bI_t c2
      refine vv_bipush (v := (-2)) hC dX8_hungry_17 (by decide) ?_
      have hf : (f_X8_hungry village sights_count kinds moons places values p1 p2 p3) = ((-2), sights_count, kinds, moons, places, values) := by first | (simp only [f_X8_hungry, if_neg c1, if_pos c2]; done) | rfl | (simp only [f_X8_hungry, if_neg c1, if_pos c2]; rfl)
      refine vv_iret hC hR rfl dX8_hungry_19 (by omega) (by omega) ?_
      rw [hf]
      try dsimp only
      exact ⟨rfl, h_sights, h_kinds, h_moons, h_places, h_values, hE⟩
  · have c1 : f_X8_noPerson village p2 = true := bI_t c1
    refine vv_iconst (v := (-1)) hC dX8_hungry_8 (by decide) ?_
    have hf : (f_X8_hungry village sights_count kinds moons places values p1 p2 p3) = ((-1), sights_count, kinds, moons, places, values) := by first | (simp only [f_X8_hungry, if_pos c1]; done) | rfl | (simp only [f_X8_hungry, if_pos c1]; rfl)
    refine vv_iret hC hR rfl dX8_hungry_9 (by omega) (by omega) ?_
    rw [hf]
    try dsimp only
    exact ⟨rfl, h_sights, h_kinds, h_moons, h_places, h_values, hE⟩
def f_X8_spoon (village : TVi) (sights_count : Nat) (kinds : Nat → Int32) (moons : Nat → Int32) (places : Nat → Int32) (values : Nat → Int32) (p1 : Int32) (p2 : Bool) : Int32 × Nat × (Nat → Int32) × (Nat → Int32) × (Nat → Int32) × (Nat → Int32) := ((if f_X8_noPerson village p1 = true then (-1 : Int32) else (f_X4_add sights_count kinds moons places values 2 0 p1 (bI (if p2 = true then true else false))).1), (if f_X8_noPerson village p1 = true then sights_count else (f_X4_add sights_count kinds moons places values 2 0 p1 (bI (if p2 = true then true else false))).2.1), (if f_X8_noPerson village p1 = true then kinds else (f_X4_add sights_count kinds moons places values 2 0 p1 (bI (if p2 = true then true else false))).2.2.1), (if f_X8_noPerson village p1 = true then moons else (f_X4_add sights_count kinds moons places values 2 0 p1 (bI (if p2 = true then true else false))).2.2.2.1), (if f_X8_noPerson village p1 = true then places else (f_X4_add sights_count kinds moons places values 2 0 p1 (bI (if p2 = true then true else false))).2.2.2.2.1), (if f_X8_noPerson village p1 = true then values else (f_X4_add sights_count kinds moons places values 2 0 p1 (bI (if p2 = true then true else false))).2.2.2.2.2))
set_option maxHeartbeats 4000000 in
set_option maxRecDepth 100000 in
theorem c_X8_spoon (g : GT) (w0 : Wd) (A : Nat → Nat) (hA : ∀ i j, i < 60 → j < 60 → A i = A j → i = j) (vi : Nat) (who_keptSlots : Int32) (who_seed : Int64) (village : TVi) (sights_count : Nat) (kinds : Nat → Int32) (moons : Nat → Int32) (places : Nat → Int32) (values : Nat → Int32) (p1 : Int32) (p2 : Bool) (hsc : sights_count ≤ 6) (h_who : w0 (A 0) = some (.inr (8, cWh A vi (who_keptSlots, who_seed)))) (h_village : w0 vi = some (.inr (7, cVi village))) (h_sights : w0 (A 8) = some (.inr (4, cSi (A 9) (A 10) (A 11) (A 12) sights_count))) (h_kinds : w0 (A 9) = some (.inl (g.2.2.1 0, 6, .inl kinds))) (h_moons : w0 (A 10) = some (.inl (g.2.2.1 0, 6, .inl moons))) (h_places : w0 (A 11) = some (.inl (g.2.2.1 0, 6, .inl places))) (h_values : w0 (A 12) = some (.inl (g.2.2.1 0, 6, .inl values))) : CT g yX8_spoon cX8_spoon 3 (some .int) 2 46 0 0 w0 [.ref (A 0), .int p1, .int (bI p2)] (fun r w2 => r = some (.int ((f_X8_spoon village sights_count kinds moons places values p1 p2).1)) ∧ w2 (A 8) = some (.inr (4, cSi (A 9) (A 10) (A 11) (A 12) ((f_X8_spoon village sights_count kinds moons places values p1 p2).2.1))) ∧ w2 (A 9) = some (.inl (g.2.2.1 0, 6, .inl ((f_X8_spoon village sights_count kinds moons places values p1 p2).2.2.1))) ∧ w2 (A 10) = some (.inl (g.2.2.1 0, 6, .inl ((f_X8_spoon village sights_count kinds moons places values p1 p2).2.2.2.1))) ∧ w2 (A 11) = some (.inl (g.2.2.1 0, 6, .inl ((f_X8_spoon village sights_count kinds moons places values p1 p2).2.2.2.2.1))) ∧ w2 (A 12) = some (.inl (g.2.2.1 0, 6, .inl ((f_X8_spoon village sights_count kinds moons places values p1 p2).2.2.2.2.2))) ∧ wE (fun q => q = (A 8) ∨ q = (A 9) ∨ q = (A 10) ∨ q = (A 11) ∨ q = (A 12)) w0 w2) := by
  refine CT.of (own := RX8) (by decide +kernel) rfl (Nat.le_of_ble_eq_true rfl) (fun X hC hR hI => ?_)
  show V g X 3 w0 0 0 0 [(0, .ref (A 0)), (1, .int p1), (2, .int (bI p2))] []
  have hE : wE (fun q => q = (A 8) ∨ q = (A 9) ∨ q = (A 10) ∨ q = (A 11) ∨ q = (A 12)) w0 w0 := wE.refl
  refine vv_aload_n hC 0 dX8_spoon_0 rfl rfl ?_
  refine vv_iload_n hC 1 dX8_spoon_1 rfl rfl ?_
  refine vv_callV hC dX8_spoon_2 md_X8_noPerson lk_m_X8_134 lk_i_X8_noPerson lk_s_X8_noPerson h_who rfl (As := [.int p1]) (rest := []) (c_X8_noPerson g w0 A hA vi who_keptSlots who_seed village p1 h_who h_village) rfl rfl (Nat.le_of_ble_eq_true rfl) ⟨by decide, by decide, by decide, by decide⟩ (fun r w9 hq => ?_)
  obtain ⟨rfl, rfl⟩ := hq
  show V g X 3 w0 0 0 5 [(0, .ref (A 0)), (1, .int p1), (2, .int (bI p2))] [.int (bI (f_X8_noPerson village p1))]
  have hJ2 : ∀ w6 : Wd, w6 (A 0) = some (.inr (8, cWh A vi (who_keptSlots, who_seed))) → w6 vi = some (.inr (7, cVi village)) → w6 (A 8) = some (.inr (4, cSi (A 9) (A 10) (A 11) (A 12) (if f_X8_noPerson village p1 = true then sights_count else (f_X4_add sights_count kinds moons places values 2 0 p1 (bI (if p2 = true then true else false))).2.1))) → w6 (A 9) = some (.inl (g.2.2.1 0, 6, .inl (if f_X8_noPerson village p1 = true then kinds else (f_X4_add sights_count kinds moons places values 2 0 p1 (bI (if p2 = true then true else false))).2.2.1))) → w6 (A 10) = some (.inl (g.2.2.1 0, 6, .inl (if f_X8_noPerson village p1 = true then moons else (f_X4_add sights_count kinds moons places values 2 0 p1 (bI (if p2 = true then true else false))).2.2.2.1))) → w6 (A 11) = some (.inl (g.2.2.1 0, 6, .inl (if f_X8_noPerson village p1 = true then places else (f_X4_add sights_count kinds moons places values 2 0 p1 (bI (if p2 = true then true else false))).2.2.2.2.1))) → w6 (A 12) = some (.inl (g.2.2.1 0, 6, .inl (if f_X8_noPerson village p1 = true then values else (f_X4_add sights_count kinds moons places values 2 0 p1 (bI (if p2 = true then true else false))).2.2.2.2.2))) → wE (fun q => q = (A 8) ∨ q = (A 9) ∨ q = (A 10) ∨ q = (A 11) ∨ q = (A 12)) w0 w6 → V g X 3 w6 0 0 31 [(0, .ref (A 0)), (1, .int p1), (2, .int (bI p2))] [.int (if f_X8_noPerson village p1 = true then (-1 : Int32) else (f_X4_add sights_count kinds moons places values 2 0 p1 (bI (if p2 = true then true else false))).1)] := by
    intro w6 h_who h_village h_sights h_kinds h_moons h_places h_values hE
    have hf : (f_X8_spoon village sights_count kinds moons places values p1 p2) = ((if f_X8_noPerson village p1 = true then (-1 : Int32) else (f_X4_add sights_count kinds moons places values 2 0 p1 (bI (if p2 = true then true else false))).1), (if f_X8_noPerson village p1 = true then sights_count else (f_X4_add sights_count kinds moons places values 2 0 p1 (bI (if p2 = true then true else false))).2.1), (if f_X8_noPerson village p1 = true then kinds else (f_X4_add sights_count kinds moons places values 2 0 p1 (bI (if p2 = true then true else false))).2.2.1), (if f_X8_noPerson village p1 = true then moons else (f_X4_add sights_count kinds moons places values 2 0 p1 (bI (if p2 = true then true else false))).2.2.2.1), (if f_X8_noPerson village p1 = true then places else (f_X4_add sights_count kinds moons places values 2 0 p1 (bI (if p2 = true then true else false))).2.2.2.2.1), (if f_X8_noPerson village p1 = true then values else (f_X4_add sights_count kinds moons places values 2 0 p1 (bI (if p2 = true then true else false))).2.2.2.2.2)) := by first | (simp only [f_X8_spoon]; done) | rfl | (simp only [f_X8_spoon]; rfl)
    refine vv_iret hC hR rfl dX8_spoon_31 (by omega) (by omega) ?_
    rw [hf]
    try dsimp only
    exact ⟨rfl, h_sights, h_kinds, h_moons, h_places, h_values, hE⟩
  refine vv_if_eq hC 12 dX8_spoon_5 (by decide) (fun c1 => ?_) (fun c1 => ?_)
  · have c1 : ¬ (f_X8_noPerson village p1 = true) := bI_f c1
    refine vv_aload_n hC 0 dX8_spoon_12 rfl rfl ?_
    refine vv_get (v := .ref (A 8)) hC fl_X8_51 dX8_spoon_13 h_who rfl ?_
    refine vv_iconst (v := 2) hC dX8_spoon_16 (by decide) ?_
    refine vv_iconst (v := 0) hC dX8_spoon_17 (by decide) ?_
    refine vv_iload_n hC 1 dX8_spoon_18 rfl rfl ?_
    refine vv_iload_n hC 2 dX8_spoon_19 rfl rfl ?_
    have hJ4 : V g X 3 w0 0 0 28 [(0, .ref (A 0)), (1, .int p1), (2, .int (bI p2))] [.int (bI (if p2 = true then true else false)), .int p1, .int 0, .int 2, .ref (A 8)] := by
      refine vv_callV hC dX8_spoon_28 md_X4_add lk_m_X8_216 lk_i_X4_add lk_s_X4_add h_sights rfl (As := [.int 2, .int 0, .int p1, .int (bI (if p2 = true then true else false))]) (rest := []) (c_X4_add g w0 (A 8) (A 9) (A 10) (A 11) (A 12) sights_count kinds moons places values 2 0 p1 (bI (if p2 = true then true else false)) (by omega) h_sights h_kinds h_moons h_places h_values (fw_inj hA (by decide) (by decide) (by decide)) (fw_inj hA (by decide) (by decide) (by decide)) (fw_inj hA (by decide) (by decide) (by decide)) (fw_inj hA (by decide) (by decide) (by decide)) (fw_inj hA (by decide) (by decide) (by decide)) (fw_inj hA (by decide) (by decide) (by decide))) rfl rfl (Nat.le_of_ble_eq_true rfl) ⟨by decide, by decide, by decide, by decide⟩ (fun r w9 hq => ?_)
      obtain ⟨rfl, t1, t2, t3, t4, t5, hs⟩ := hq
      obtain ⟨w5, rfl⟩ : ∃ z, z = w9 := ⟨_, rfl⟩
      have h_who := hs _ _ (fun z => z.elim (fw_oo h_who h_sights (by decide)) (fun z => z.elim (fw_oa h_who h_kinds) (fun z => z.elim (fw_oa h_who h_moons) (fun z => z.elim (fw_oa h_who h_places) (fw_oa h_who h_values))))) h_who
      have h_village := hs _ _ (fun z => z.elim (fw_oo h_village h_sights (by decide)) (fun z => z.elim (fw_oa h_village h_kinds) (fun z => z.elim (fw_oa h_village h_moons) (fun z => z.elim (fw_oa h_village h_places) (fw_oa h_village h_values))))) h_village
      have h_sights := t1
      have h_kinds := t2
      have h_moons := t3
      have h_places := t4
      have h_values := t5
      have hE := hE.trans (hs.mono (fun _ z => z.elim (fun z => (Or.inl z)) (fun z => z.elim (fun z => (Or.inr (Or.inl z))) (fun z => z.elim (fun z => (Or.inr (Or.inr (Or.inl z)))) (fun z => z.elim (fun z => (Or.inr (Or.inr (Or.inr (Or.inl z))))) (fun z => (Or.inr (Or.inr (Or.inr (Or.inr z))))))))))
      show V g X 3 w5 0 0 31 [(0, .ref (A 0)), (1, .int p1), (2, .int (bI p2))] [.int ((f_X4_add sights_count kinds moons places values 2 0 p1 (bI (if p2 = true then true else false))).1)]
      have hz := hJ2 w5
      try simp only [if_neg c1] at hz
      first | exact hz h_who h_village h_sights h_kinds h_moons h_places h_values hE | (simp only [if_neg c1]; exact hz h_who h_village h_sights h_kinds h_moons h_places h_values hE)
    refine vv_if_eq hC 27 dX8_spoon_20 (by decide) (fun c3 => ?_) (fun c3 => ?_)
    · have c3 : ¬ (p2 = true) := bI_f c3
      refine vv_iconst (v := 0) hC dX8_spoon_27 (by decide) ?_
      have hz := hJ4
      try simp only [if_neg c3] at hz
      first | exact hz | (simp only [if_neg c3]; exact hz)
    · have c3 : p2 = true := bI_t c3
      refine vv_iconst (v := 1) hC dX8_spoon_23 (by decide) ?_
      refine vv_goto hC 28 dX8_spoon_24 (by decide) ?_
      have hz := hJ4
      try simp only [if_pos c3] at hz
      first | exact hz | (simp only [if_pos c3]; exact hz)
  · have c1 : f_X8_noPerson village p1 = true := bI_t c1
    refine vv_iconst (v := (-1)) hC dX8_spoon_8 (by decide) ?_
    refine vv_goto hC 31 dX8_spoon_9 (by decide) ?_
    have hz := hJ2 w0
    try simp only [if_pos c1] at hz
    first | exact hz h_who h_village h_sights h_kinds h_moons h_places h_values hE | (simp only [if_pos c1]; exact hz h_who h_village h_sights h_kinds h_moons h_places h_values hE)
def f_X8_unsee (sights_count : Nat) : Int32 × Nat := (nI sights_count, 0)
set_option maxHeartbeats 4000000 in
set_option maxRecDepth 100000 in
theorem c_X8_unsee (g : GT) (w0 : Wd) (A : Nat → Nat) (hA : ∀ i j, i < 60 → j < 60 → A i = A j → i = j) (vi : Nat) (who_keptSlots : Int32) (who_seed : Int64) (sights_count : Nat) (h_who : w0 (A 0) = some (.inr (8, cWh A vi (who_keptSlots, who_seed)))) (h_sights : w0 (A 8) = some (.inr (4, cSi (A 9) (A 10) (A 11) (A 12) sights_count))) : CT g yX8_unsee cX8_unsee 2 (some .int) 0 0 0 0 w0 [.ref (A 0)] (fun r w2 => r = some (.int ((f_X8_unsee sights_count).1)) ∧ w2 (A 8) = some (.inr (4, cSi (A 9) (A 10) (A 11) (A 12) ((f_X8_unsee sights_count).2))) ∧ wE (fun q => q = (A 8)) w0 w2) := by
  refine CT.of (own := RX8) (by decide +kernel) rfl (Nat.le_of_ble_eq_true rfl) (fun X hC hR hI => ?_)
  show V g X 2 w0 0 0 0 [(0, .ref (A 0))] []
  have hE : wE (fun q => q = (A 8)) w0 w0 := wE.refl
  refine vv_aload_n hC 0 dX8_unsee_0 rfl rfl ?_
  refine vv_get (v := .ref (A 8)) hC fl_X8_51 dX8_unsee_1 h_who rfl ?_
  refine vv_getN (v := .int (nI sights_count)) hC fl_X8_219 dX8_unsee_4 h_sights rfl ?_
  refine vv_istore_n (lv2 := [(1, .int (nI sights_count)), (0, .ref (A 0))]) hC dX8_unsee_7 rfl (by decide) rfl ?_
  refine vv_aload_n hC 1 dX8_unsee_8 rfl rfl ?_
  refine vv_get (v := .ref (A 8)) hC fl_X8_51 dX8_unsee_9 h_who rfl ?_
  refine vv_iconst (v := 0) hC dX8_unsee_12 (by decide) ?_
  refine vv_putN hC fp_X8_219 dX8_unsee_13 h_sights rfl rfl (Nat.le_of_ble_eq_true rfl) (fun w1 t1 hs => ?_)
  have t1 : w1 (A 8) = some (.inr (4, cSi (A 9) (A 10) (A 11) (A 12) 0)) := t1.trans (congrArg (fun z => some (Sum.inr (4, z))) (eSi_count _ _ _ _ _ _))
  have h_who := hs _ _ (fw_oo h_who h_sights (by decide)) h_who
  have h_sights := t1
  have hE := hE.trans (hs.mono (fun _ z => z))
  refine vv_iload_n hC 0 dX8_unsee_16 rfl rfl ?_
  have hf : (f_X8_unsee sights_count) = (nI sights_count, 0) := by first | (simp only [f_X8_unsee]; done) | rfl | (simp only [f_X8_unsee]; rfl)
  refine vv_iret hC hR rfl dX8_unsee_17 (by omega) (by omega) ?_
  rw [hf]
  try dsimp only
  exact ⟨rfl, h_sights, hE⟩
def f_X8_tellTales (tales_away : Int32) (tales_unseenWays : Int64) (tales_seenHouses : Int64) (village : TVi) (now : TN) (sights_count : Nat) (fits : Nat → Int64) (kinds : Nat → Int32) (moons : Nat → Int32) (places : Nat → Int32) (values : Nat → Int32) : Nat × Int32 × Int64 × Int64 × (Nat → Int64) := ((f_X5_tell tales_away tales_unseenWays tales_seenHouses village now sights_count fits kinds moons places values).1, (f_X5_tell tales_away tales_unseenWays tales_seenHouses village now sights_count fits kinds moons places values).2.1, (f_X5_tell tales_away tales_unseenWays tales_seenHouses village now sights_count fits kinds moons places values).2.2.1, (f_X5_tell tales_away tales_unseenWays tales_seenHouses village now sights_count fits kinds moons places values).2.2.2.1, (f_X5_tell tales_away tales_unseenWays tales_seenHouses village now sights_count fits kinds moons places values).2.2.2.2)
set_option maxHeartbeats 4000000 in
set_option maxRecDepth 100000 in
theorem c_X8_tellTales (g : GT) (w0 : Wd) (A : Nat → Nat) (hA : ∀ i j, i < 60 → j < 60 → A i = A j → i = j) (vi : Nat) (who_keptSlots : Int32) (who_seed : Int64) (tales_people : Nat) (tales_away : Int32) (tales_unseenWays : Int64) (tales_seenHouses : Int64) (village : TVi) (now : TN) (sights_count : Nat) (fits : Nat → Int64) (kinds : Nat → Int32) (moons : Nat → Int32) (places : Nat → Int32) (values : Nat → Int32) (hvh : gVi_houses village ≤ 4) (hvp : gVi_people village ≤ 6) (hsc : sights_count ≤ 6) (h_who : w0 (A 0) = some (.inr (8, cWh A vi (who_keptSlots, who_seed)))) (h_tales : w0 (A 13) = some (.inr (5, cTa (A 14) (A 15) (A 16) (tales_people, tales_away, tales_unseenWays, tales_seenHouses)))) (h_village : w0 vi = some (.inr (7, cVi village))) (h_now : w0 (A 3) = some (.inr (2, cN now))) (h_sights : w0 (A 8) = some (.inr (4, cSi (A 9) (A 10) (A 11) (A 12) sights_count))) (h_fits : w0 (A 14) = some (.inl (g.2.2.1 1, 64, .inr (.inl fits)))) (h_kinds : w0 (A 9) = some (.inl (g.2.2.1 0, 6, .inl kinds))) (h_moons : w0 (A 10) = some (.inl (g.2.2.1 0, 6, .inl moons))) (h_places : w0 (A 11) = some (.inl (g.2.2.1 0, 6, .inl places))) (h_values : w0 (A 12) = some (.inl (g.2.2.1 0, 6, .inl values))) : CT g yX8_tellTales cX8_tellTales 1 none 8 238 0 0 w0 [.ref (A 0)] (fun r w2 => r = none ∧ w2 (A 13) = some (.inr (5, cTa (A 14) (A 15) (A 16) ((f_X8_tellTales tales_away tales_unseenWays tales_seenHouses village now sights_count fits kinds moons places values).1, (f_X8_tellTales tales_away tales_unseenWays tales_seenHouses village now sights_count fits kinds moons places values).2.1, (f_X8_tellTales tales_away tales_unseenWays tales_seenHouses village now sights_count fits kinds moons places values).2.2.1, (f_X8_tellTales tales_away tales_unseenWays tales_seenHouses village now sights_count fits kinds moons places values).2.2.2.1))) ∧ w2 (A 14) = some (.inl (g.2.2.1 1, 64, .inr (.inl ((f_X8_tellTales tales_away tales_unseenWays tales_seenHouses village now sights_count fits kinds moons places values).2.2.2.2)))) ∧ wE (fun q => q = (A 13) ∨ q = (A 14)) w0 w2) := by
  refine CT.of (own := RX8) (by decide +kernel) rfl (Nat.le_of_ble_eq_true rfl) (fun X hC hR hI => ?_)
  show V g X 1 w0 0 0 0 [(0, .ref (A 0))] []
  have hE : wE (fun q => q = (A 13) ∨ q = (A 14)) w0 w0 := wE.refl
  refine vv_aload_n hC 0 dX8_tellTales_0 rfl rfl ?_
  refine vv_get (v := .ref (A 13)) hC fl_X8_58 dX8_tellTales_1 h_who rfl ?_
  refine vv_aload_n hC 0 dX8_tellTales_4 rfl rfl ?_
  refine vv_get (v := .ref vi) hC fl_X8_19 dX8_tellTales_5 h_who rfl ?_
  refine vv_aload_n hC 0 dX8_tellTales_8 rfl rfl ?_
  refine vv_get (v := .ref (A 3)) hC fl_X8_26 dX8_tellTales_9 h_who rfl ?_
  refine vv_aload_n hC 0 dX8_tellTales_12 rfl rfl ?_
  refine vv_get (v := .ref (A 8)) hC fl_X8_51 dX8_tellTales_13 h_who rfl ?_
  refine vv_callV hC dX8_tellTales_16 md_X5_tell lk_m_X8_309 lk_i_X5_tell lk_s_X5_tell h_tales rfl (As := [.ref vi, .ref (A 3), .ref (A 8)]) (rest := []) (c_X5_tell g w0 (A 13) (A 14) (A 15) (A 16) vi (A 3) (A 8) (A 9) (A 10) (A 11) (A 12) tales_people tales_away tales_unseenWays tales_seenHouses village now sights_count fits kinds moons places values (by omega) (by omega) (by omega) h_tales h_village h_now h_sights h_fits h_kinds h_moons h_places h_values (fw_inj hA (by decide) (by decide) (by decide)) (fw_inj hA (by decide) (by decide) (by decide)) (fw_inj hA (by decide) (by decide) (by decide)) (fw_inj hA (by decide) (by decide) (by decide))) rfl rfl (Nat.le_of_ble_eq_true rfl) ⟨by decide, by decide, by decide, by decide⟩ (fun r w9 hq => ?_)
  obtain ⟨rfl, t1, t2, hs⟩ := hq
  obtain ⟨w1, rfl⟩ : ∃ z, z = w9 := ⟨_, rfl⟩
  have h_who := hs _ _ (fun z => z.elim (fw_oo h_who h_tales (by decide)) (fw_oa h_who h_fits)) h_who
  have h_village := hs _ _ (fun z => z.elim (fw_oo h_village h_tales (by decide)) (fw_oa h_village h_fits)) h_village
  have h_now := hs _ _ (fun z => z.elim (fw_oo h_now h_tales (by decide)) (fw_oa h_now h_fits)) h_now
  have h_sights := hs _ _ (fun z => z.elim (fw_oo h_sights h_tales (by decide)) (fw_oa h_sights h_fits)) h_sights
  have h_kinds := hs _ _ (fun z => z.elim (fw_ao h_kinds h_tales) (fw_inj hA (by decide) (by decide) (by decide))) h_kinds
  have h_moons := hs _ _ (fun z => z.elim (fw_ao h_moons h_tales) (fw_inj hA (by decide) (by decide) (by decide))) h_moons
  have h_places := hs _ _ (fun z => z.elim (fw_ao h_places h_tales) (fw_inj hA (by decide) (by decide) (by decide))) h_places
  have h_values := hs _ _ (fun z => z.elim (fw_ao h_values h_tales) (fw_inj hA (by decide) (by decide) (by decide))) h_values
  have h_tales := t1
  have h_fits := t2
  have hE := hE.trans (hs.mono (fun _ z => z.elim (fun z => (Or.inl z)) (fun z => (Or.inr z))))
  show V g X 1 w1 0 0 19 [(0, .ref (A 0))] []
  have hf : (f_X8_tellTales tales_away tales_unseenWays tales_seenHouses village now sights_count fits kinds moons places values) = ((f_X5_tell tales_away tales_unseenWays tales_seenHouses village now sights_count fits kinds moons places values).1, (f_X5_tell tales_away tales_unseenWays tales_seenHouses village now sights_count fits kinds moons places values).2.1, (f_X5_tell tales_away tales_unseenWays tales_seenHouses village now sights_count fits kinds moons places values).2.2.1, (f_X5_tell tales_away tales_unseenWays tales_seenHouses village now sights_count fits kinds moons places values).2.2.2.1, (f_X5_tell tales_away tales_unseenWays tales_seenHouses village now sights_count fits kinds moons places values).2.2.2.2) := by first | (simp only [f_X8_tellTales]; done) | rfl | (simp only [f_X8_tellTales]; rfl)
  refine vv_vret hC hR rfl dX8_tellTales_19 (by omega) (by omega) ?_
  rw [hf]
  try dsimp only
  exact ⟨rfl, h_tales, h_fits, hE⟩
def f_X8_tales (tales_away : Int32) (tales_unseenWays : Int64) (tales_seenHouses : Int64) (village : TVi) (now : TN) (sights_count : Nat) (fits : Nat → Int64) (kinds : Nat → Int32) (moons : Nat → Int32) (places : Nat → Int32) (values : Nat → Int32) : Int64 × Nat × Int32 × Int64 × Int64 × (Nat → Int64) := (f_X5_all ((f_X8_tellTales tales_away tales_unseenWays tales_seenHouses village now sights_count fits kinds moons places values).2.2.2.2), (f_X8_tellTales tales_away tales_unseenWays tales_seenHouses village now sights_count fits kinds moons places values).1, (f_X8_tellTales tales_away tales_unseenWays tales_seenHouses village now sights_count fits kinds moons places values).2.1, (f_X8_tellTales tales_away tales_unseenWays tales_seenHouses village now sights_count fits kinds moons places values).2.2.1, (f_X8_tellTales tales_away tales_unseenWays tales_seenHouses village now sights_count fits kinds moons places values).2.2.2.1, (f_X8_tellTales tales_away tales_unseenWays tales_seenHouses village now sights_count fits kinds moons places values).2.2.2.2)
set_option maxHeartbeats 4000000 in
set_option maxRecDepth 100000 in
theorem c_X8_tales (g : GT) (w0 : Wd) (A : Nat → Nat) (hA : ∀ i j, i < 60 → j < 60 → A i = A j → i = j) (vi : Nat) (who_keptSlots : Int32) (who_seed : Int64) (tales_people : Nat) (tales_away : Int32) (tales_unseenWays : Int64) (tales_seenHouses : Int64) (village : TVi) (now : TN) (sights_count : Nat) (fits : Nat → Int64) (kinds : Nat → Int32) (moons : Nat → Int32) (places : Nat → Int32) (values : Nat → Int32) (hvh : gVi_houses village ≤ 4) (hvp : gVi_people village ≤ 6) (hsc : sights_count ≤ 6) (h_who : w0 (A 0) = some (.inr (8, cWh A vi (who_keptSlots, who_seed)))) (h_tales : w0 (A 13) = some (.inr (5, cTa (A 14) (A 15) (A 16) (tales_people, tales_away, tales_unseenWays, tales_seenHouses)))) (h_village : w0 vi = some (.inr (7, cVi village))) (h_now : w0 (A 3) = some (.inr (2, cN now))) (h_sights : w0 (A 8) = some (.inr (4, cSi (A 9) (A 10) (A 11) (A 12) sights_count))) (h_fits : w0 (A 14) = some (.inl (g.2.2.1 1, 64, .inr (.inl fits)))) (h_kinds : w0 (A 9) = some (.inl (g.2.2.1 0, 6, .inl kinds))) (h_moons : w0 (A 10) = some (.inl (g.2.2.1 0, 6, .inl moons))) (h_places : w0 (A 11) = some (.inl (g.2.2.1 0, 6, .inl places))) (h_values : w0 (A 12) = some (.inl (g.2.2.1 0, 6, .inl values))) : CT g yX8_tales cX8_tales 1 (some .long) 9 258 0 0 w0 [.ref (A 0)] (fun r w2 => r = some (.long ((f_X8_tales tales_away tales_unseenWays tales_seenHouses village now sights_count fits kinds moons places values).1)) ∧ w2 (A 13) = some (.inr (5, cTa (A 14) (A 15) (A 16) ((f_X8_tales tales_away tales_unseenWays tales_seenHouses village now sights_count fits kinds moons places values).2.1, (f_X8_tales tales_away tales_unseenWays tales_seenHouses village now sights_count fits kinds moons places values).2.2.1, (f_X8_tales tales_away tales_unseenWays tales_seenHouses village now sights_count fits kinds moons places values).2.2.2.1, (f_X8_tales tales_away tales_unseenWays tales_seenHouses village now sights_count fits kinds moons places values).2.2.2.2.1))) ∧ w2 (A 14) = some (.inl (g.2.2.1 1, 64, .inr (.inl ((f_X8_tales tales_away tales_unseenWays tales_seenHouses village now sights_count fits kinds moons places values).2.2.2.2.2)))) ∧ wE (fun q => q = (A 13) ∨ q = (A 14)) w0 w2) := by
  refine CT.of (own := RX8) (by decide +kernel) rfl (Nat.le_of_ble_eq_true rfl) (fun X hC hR hI => ?_)
  show V g X 1 w0 0 0 0 [(0, .ref (A 0))] []
  have hE : wE (fun q => q = (A 13) ∨ q = (A 14)) w0 w0 := wE.refl
  refine vv_aload_n hC 0 dX8_tales_0 rfl rfl ?_
  refine vv_callV hC dX8_tales_1 md_X8_tellTales lk_m_X8_220 lk_i_X8_tellTales lk_s_X8_tellTales h_who rfl (As := []) (rest := []) (c_X8_tellTales g w0 A hA vi who_keptSlots who_seed tales_people tales_away tales_unseenWays tales_seenHouses village now sights_count fits kinds moons places values (by omega) (by omega) (by omega) h_who h_tales h_village h_now h_sights h_fits h_kinds h_moons h_places h_values) rfl rfl (Nat.le_of_ble_eq_true rfl) ⟨by decide, by decide, by decide, by decide⟩ (fun r w9 hq => ?_)
  obtain ⟨rfl, t1, t2, hs⟩ := hq
  obtain ⟨w1, rfl⟩ : ∃ z, z = w9 := ⟨_, rfl⟩
  have h_who := hs _ _ (fun z => z.elim (fw_oo h_who h_tales (by decide)) (fw_oa h_who h_fits)) h_who
  have h_village := hs _ _ (fun z => z.elim (fw_oo h_village h_tales (by decide)) (fw_oa h_village h_fits)) h_village
  have h_now := hs _ _ (fun z => z.elim (fw_oo h_now h_tales (by decide)) (fw_oa h_now h_fits)) h_now
  have h_sights := hs _ _ (fun z => z.elim (fw_oo h_sights h_tales (by decide)) (fw_oa h_sights h_fits)) h_sights
  have h_kinds := hs _ _ (fun z => z.elim (fw_ao h_kinds h_tales) (fw_inj hA (by decide) (by decide) (by decide))) h_kinds
  have h_moons := hs _ _ (fun z => z.elim (fw_ao h_moons h_tales) (fw_inj hA (by decide) (by decide) (by decide))) h_moons
  have h_places := hs _ _ (fun z => z.elim (fw_ao h_places h_tales) (fw_inj hA (by decide) (by decide) (by decide))) h_places
  have h_values := hs _ _ (fun z => z.elim (fw_ao h_values h_tales) (fw_inj hA (by decide) (by decide) (by decide))) h_values
  have h_tales := t1
  have h_fits := t2
  have hE := hE.trans (hs.mono (fun _ z => z.elim (fun z => (Or.inl z)) (fun z => (Or.inr z))))
  show V g X 1 w1 0 0 4 [(0, .ref (A 0))] []
  refine vv_aload_n hC 0 dX8_tales_4 rfl rfl ?_
  refine vv_get (v := .ref (A 13)) hC fl_X8_58 dX8_tales_5 h_who rfl ?_
  refine vv_callV hC dX8_tales_8 md_X5_all lk_m_X8_223 lk_i_X5_all lk_s_X5_all h_tales rfl (As := []) (rest := []) (c_X5_all g w1 (A 13) (A 14) (A 15) (A 16) ((f_X8_tellTales tales_away tales_unseenWays tales_seenHouses village now sights_count fits kinds moons places values).1) ((f_X8_tellTales tales_away tales_unseenWays tales_seenHouses village now sights_count fits kinds moons places values).2.1) ((f_X8_tellTales tales_away tales_unseenWays tales_seenHouses village now sights_count fits kinds moons places values).2.2.1) ((f_X8_tellTales tales_away tales_unseenWays tales_seenHouses village now sights_count fits kinds moons places values).2.2.2.1) ((f_X8_tellTales tales_away tales_unseenWays tales_seenHouses village now sights_count fits kinds moons places values).2.2.2.2) h_tales h_fits) rfl rfl (Nat.le_of_ble_eq_true rfl) ⟨by decide, by decide, by decide, by decide⟩ (fun r w9 hq => ?_)
  obtain ⟨rfl, rfl⟩ := hq
  show V g X 1 w1 0 0 11 [(0, .ref (A 0))] [.long (f_X5_all ((f_X8_tellTales tales_away tales_unseenWays tales_seenHouses village now sights_count fits kinds moons places values).2.2.2.2))]
  have hf : (f_X8_tales tales_away tales_unseenWays tales_seenHouses village now sights_count fits kinds moons places values) = (f_X5_all ((f_X8_tellTales tales_away tales_unseenWays tales_seenHouses village now sights_count fits kinds moons places values).2.2.2.2), (f_X8_tellTales tales_away tales_unseenWays tales_seenHouses village now sights_count fits kinds moons places values).1, (f_X8_tellTales tales_away tales_unseenWays tales_seenHouses village now sights_count fits kinds moons places values).2.1, (f_X8_tellTales tales_away tales_unseenWays tales_seenHouses village now sights_count fits kinds moons places values).2.2.1, (f_X8_tellTales tales_away tales_unseenWays tales_seenHouses village now sights_count fits kinds moons places values).2.2.2.1, (f_X8_tellTales tales_away tales_unseenWays tales_seenHouses village now sights_count fits kinds moons places values).2.2.2.2) := by first | (simp only [f_X8_tales]; done) | rfl | (simp only [f_X8_tales]; rfl)
  refine vv_lret hC hR rfl dX8_tales_11 (by omega) (by omega) ?_
  rw [hf]
  try dsimp only
  exact ⟨rfl, h_tales, h_fits, hE⟩
def f_X8_sets (tales_away : Int32) (tales_unseenWays : Int64) (tales_seenHouses : Int64) (village : TVi) (now : TN) (sights_count : Nat) (fits : Nat → Int64) (kinds : Nat → Int32) (moons : Nat → Int32) (places : Nat → Int32) (values : Nat → Int32) : Int32 × Nat × Int32 × Int64 × Int64 × (Nat → Int64) := (f_X5_setCount ((f_X8_tellTales tales_away tales_unseenWays tales_seenHouses village now sights_count fits kinds moons places values).2.2.2.2), (f_X8_tellTales tales_away tales_unseenWays tales_seenHouses village now sights_count fits kinds moons places values).1, (f_X8_tellTales tales_away tales_unseenWays tales_seenHouses village now sights_count fits kinds moons places values).2.1, (f_X8_tellTales tales_away tales_unseenWays tales_seenHouses village now sights_count fits kinds moons places values).2.2.1, (f_X8_tellTales tales_away tales_unseenWays tales_seenHouses village now sights_count fits kinds moons places values).2.2.2.1, (f_X8_tellTales tales_away tales_unseenWays tales_seenHouses village now sights_count fits kinds moons places values).2.2.2.2)
set_option maxHeartbeats 4000000 in
set_option maxRecDepth 100000 in
theorem c_X8_sets (g : GT) (w0 : Wd) (A : Nat → Nat) (hA : ∀ i j, i < 60 → j < 60 → A i = A j → i = j) (vi : Nat) (who_keptSlots : Int32) (who_seed : Int64) (tales_people : Nat) (tales_away : Int32) (tales_unseenWays : Int64) (tales_seenHouses : Int64) (village : TVi) (now : TN) (sights_count : Nat) (fits : Nat → Int64) (kinds : Nat → Int32) (moons : Nat → Int32) (places : Nat → Int32) (values : Nat → Int32) (hvh : gVi_houses village ≤ 4) (hvp : gVi_people village ≤ 6) (hsc : sights_count ≤ 6) (h_who : w0 (A 0) = some (.inr (8, cWh A vi (who_keptSlots, who_seed)))) (h_tales : w0 (A 13) = some (.inr (5, cTa (A 14) (A 15) (A 16) (tales_people, tales_away, tales_unseenWays, tales_seenHouses)))) (h_village : w0 vi = some (.inr (7, cVi village))) (h_now : w0 (A 3) = some (.inr (2, cN now))) (h_sights : w0 (A 8) = some (.inr (4, cSi (A 9) (A 10) (A 11) (A 12) sights_count))) (h_fits : w0 (A 14) = some (.inl (g.2.2.1 1, 64, .inr (.inl fits)))) (h_kinds : w0 (A 9) = some (.inl (g.2.2.1 0, 6, .inl kinds))) (h_moons : w0 (A 10) = some (.inl (g.2.2.1 0, 6, .inl moons))) (h_places : w0 (A 11) = some (.inl (g.2.2.1 0, 6, .inl places))) (h_values : w0 (A 12) = some (.inl (g.2.2.1 0, 6, .inl values))) : CT g yX8_sets cX8_sets 1 (some .int) 9 258 0 0 w0 [.ref (A 0)] (fun r w2 => r = some (.int ((f_X8_sets tales_away tales_unseenWays tales_seenHouses village now sights_count fits kinds moons places values).1)) ∧ w2 (A 13) = some (.inr (5, cTa (A 14) (A 15) (A 16) ((f_X8_sets tales_away tales_unseenWays tales_seenHouses village now sights_count fits kinds moons places values).2.1, (f_X8_sets tales_away tales_unseenWays tales_seenHouses village now sights_count fits kinds moons places values).2.2.1, (f_X8_sets tales_away tales_unseenWays tales_seenHouses village now sights_count fits kinds moons places values).2.2.2.1, (f_X8_sets tales_away tales_unseenWays tales_seenHouses village now sights_count fits kinds moons places values).2.2.2.2.1))) ∧ w2 (A 14) = some (.inl (g.2.2.1 1, 64, .inr (.inl ((f_X8_sets tales_away tales_unseenWays tales_seenHouses village now sights_count fits kinds moons places values).2.2.2.2.2)))) ∧ wE (fun q => q = (A 13) ∨ q = (A 14)) w0 w2) := by
  refine CT.of (own := RX8) (by decide +kernel) rfl (Nat.le_of_ble_eq_true rfl) (fun X hC hR hI => ?_)
  show V g X 1 w0 0 0 0 [(0, .ref (A 0))] []
  have hE : wE (fun q => q = (A 13) ∨ q = (A 14)) w0 w0 := wE.refl
  refine vv_aload_n hC 0 dX8_sets_0 rfl rfl ?_
  refine vv_callV hC dX8_sets_1 md_X8_tellTales lk_m_X8_220 lk_i_X8_tellTales lk_s_X8_tellTales h_who rfl (As := []) (rest := []) (c_X8_tellTales g w0 A hA vi who_keptSlots who_seed tales_people tales_away tales_unseenWays tales_seenHouses village now sights_count fits kinds moons places values (by omega) (by omega) (by omega) h_who h_tales h_village h_now h_sights h_fits h_kinds h_moons h_places h_values) rfl rfl (Nat.le_of_ble_eq_true rfl) ⟨by decide, by decide, by decide, by decide⟩ (fun r w9 hq => ?_)
  obtain ⟨rfl, t1, t2, hs⟩ := hq
  obtain ⟨w1, rfl⟩ : ∃ z, z = w9 := ⟨_, rfl⟩
  have h_who := hs _ _ (fun z => z.elim (fw_oo h_who h_tales (by decide)) (fw_oa h_who h_fits)) h_who
  have h_village := hs _ _ (fun z => z.elim (fw_oo h_village h_tales (by decide)) (fw_oa h_village h_fits)) h_village
  have h_now := hs _ _ (fun z => z.elim (fw_oo h_now h_tales (by decide)) (fw_oa h_now h_fits)) h_now
  have h_sights := hs _ _ (fun z => z.elim (fw_oo h_sights h_tales (by decide)) (fw_oa h_sights h_fits)) h_sights
  have h_kinds := hs _ _ (fun z => z.elim (fw_ao h_kinds h_tales) (fw_inj hA (by decide) (by decide) (by decide))) h_kinds
  have h_moons := hs _ _ (fun z => z.elim (fw_ao h_moons h_tales) (fw_inj hA (by decide) (by decide) (by decide))) h_moons
  have h_places := hs _ _ (fun z => z.elim (fw_ao h_places h_tales) (fw_inj hA (by decide) (by decide) (by decide))) h_places
  have h_values := hs _ _ (fun z => z.elim (fw_ao h_values h_tales) (fw_inj hA (by decide) (by decide) (by decide))) h_values
  have h_tales := t1
  have h_fits := t2
  have hE := hE.trans (hs.mono (fun _ z => z.elim (fun z => (Or.inl z)) (fun z => (Or.inr z))))
  show V g X 1 w1 0 0 4 [(0, .ref (A 0))] []
  refine vv_aload_n hC 0 dX8_sets_4 rfl rfl ?_
  refine vv_get (v := .ref (A 13)) hC fl_X8_58 dX8_sets_5 h_who rfl ?_
  refine vv_callV hC dX8_sets_8 md_X5_setCount lk_m_X8_227 lk_i_X5_setCount lk_s_X5_setCount h_tales rfl (As := []) (rest := []) (c_X5_setCount g w1 (A 13) (A 14) (A 15) (A 16) ((f_X8_tellTales tales_away tales_unseenWays tales_seenHouses village now sights_count fits kinds moons places values).1) ((f_X8_tellTales tales_away tales_unseenWays tales_seenHouses village now sights_count fits kinds moons places values).2.1) ((f_X8_tellTales tales_away tales_unseenWays tales_seenHouses village now sights_count fits kinds moons places values).2.2.1) ((f_X8_tellTales tales_away tales_unseenWays tales_seenHouses village now sights_count fits kinds moons places values).2.2.2.1) ((f_X8_tellTales tales_away tales_unseenWays tales_seenHouses village now sights_count fits kinds moons places values).2.2.2.2) h_tales h_fits) rfl rfl (Nat.le_of_ble_eq_true rfl) ⟨by decide, by decide, by decide, by decide⟩ (fun r w9 hq => ?_)
  obtain ⟨rfl, rfl⟩ := hq
  show V g X 1 w1 0 0 11 [(0, .ref (A 0))] [.int (f_X5_setCount ((f_X8_tellTales tales_away tales_unseenWays tales_seenHouses village now sights_count fits kinds moons places values).2.2.2.2))]
  have hf : (f_X8_sets tales_away tales_unseenWays tales_seenHouses village now sights_count fits kinds moons places values) = (f_X5_setCount ((f_X8_tellTales tales_away tales_unseenWays tales_seenHouses village now sights_count fits kinds moons places values).2.2.2.2), (f_X8_tellTales tales_away tales_unseenWays tales_seenHouses village now sights_count fits kinds moons places values).1, (f_X8_tellTales tales_away tales_unseenWays tales_seenHouses village now sights_count fits kinds moons places values).2.1, (f_X8_tellTales tales_away tales_unseenWays tales_seenHouses village now sights_count fits kinds moons places values).2.2.1, (f_X8_tellTales tales_away tales_unseenWays tales_seenHouses village now sights_count fits kinds moons places values).2.2.2.1, (f_X8_tellTales tales_away tales_unseenWays tales_seenHouses village now sights_count fits kinds moons places values).2.2.2.2) := by first | (simp only [f_X8_sets]; done) | rfl | (simp only [f_X8_sets]; rfl)
  refine vv_iret hC hR rfl dX8_sets_11 (by omega) (by omega) ?_
  rw [hf]
  try dsimp only
  exact ⟨rfl, h_tales, h_fits, hE⟩
def f_X8_setAt (tales_away : Int32) (tales_unseenWays : Int64) (tales_seenHouses : Int64) (village : TVi) (now : TN) (sights_count : Nat) (fits : Nat → Int64) (kinds : Nat → Int32) (moons : Nat → Int32) (places : Nat → Int32) (values : Nat → Int32) (p1 : Int32) : Int32 × Nat × Int32 × Int64 × Int64 × (Nat → Int64) := (f_X5_setNumbered ((f_X8_tellTales tales_away tales_unseenWays tales_seenHouses village now sights_count fits kinds moons places values).2.2.2.2) p1, (f_X8_tellTales tales_away tales_unseenWays tales_seenHouses village now sights_count fits kinds moons places values).1, (f_X8_tellTales tales_away tales_unseenWays tales_seenHouses village now sights_count fits kinds moons places values).2.1, (f_X8_tellTales tales_away tales_unseenWays tales_seenHouses village now sights_count fits kinds moons places values).2.2.1, (f_X8_tellTales tales_away tales_unseenWays tales_seenHouses village now sights_count fits kinds moons places values).2.2.2.1, (f_X8_tellTales tales_away tales_unseenWays tales_seenHouses village now sights_count fits kinds moons places values).2.2.2.2)
set_option maxHeartbeats 4000000 in
set_option maxRecDepth 100000 in
theorem c_X8_setAt (g : GT) (w0 : Wd) (A : Nat → Nat) (hA : ∀ i j, i < 60 → j < 60 → A i = A j → i = j) (vi : Nat) (who_keptSlots : Int32) (who_seed : Int64) (tales_people : Nat) (tales_away : Int32) (tales_unseenWays : Int64) (tales_seenHouses : Int64) (village : TVi) (now : TN) (sights_count : Nat) (fits : Nat → Int64) (kinds : Nat → Int32) (moons : Nat → Int32) (places : Nat → Int32) (values : Nat → Int32) (p1 : Int32) (hvh : gVi_houses village ≤ 4) (hvp : gVi_people village ≤ 6) (hsc : sights_count ≤ 6) (h_who : w0 (A 0) = some (.inr (8, cWh A vi (who_keptSlots, who_seed)))) (h_tales : w0 (A 13) = some (.inr (5, cTa (A 14) (A 15) (A 16) (tales_people, tales_away, tales_unseenWays, tales_seenHouses)))) (h_village : w0 vi = some (.inr (7, cVi village))) (h_now : w0 (A 3) = some (.inr (2, cN now))) (h_sights : w0 (A 8) = some (.inr (4, cSi (A 9) (A 10) (A 11) (A 12) sights_count))) (h_fits : w0 (A 14) = some (.inl (g.2.2.1 1, 64, .inr (.inl fits)))) (h_kinds : w0 (A 9) = some (.inl (g.2.2.1 0, 6, .inl kinds))) (h_moons : w0 (A 10) = some (.inl (g.2.2.1 0, 6, .inl moons))) (h_places : w0 (A 11) = some (.inl (g.2.2.1 0, 6, .inl places))) (h_values : w0 (A 12) = some (.inl (g.2.2.1 0, 6, .inl values))) : CT g yX8_setAt cX8_setAt 2 (some .int) 9 258 0 0 w0 [.ref (A 0), .int p1] (fun r w2 => r = some (.int ((f_X8_setAt tales_away tales_unseenWays tales_seenHouses village now sights_count fits kinds moons places values p1).1)) ∧ w2 (A 13) = some (.inr (5, cTa (A 14) (A 15) (A 16) ((f_X8_setAt tales_away tales_unseenWays tales_seenHouses village now sights_count fits kinds moons places values p1).2.1, (f_X8_setAt tales_away tales_unseenWays tales_seenHouses village now sights_count fits kinds moons places values p1).2.2.1, (f_X8_setAt tales_away tales_unseenWays tales_seenHouses village now sights_count fits kinds moons places values p1).2.2.2.1, (f_X8_setAt tales_away tales_unseenWays tales_seenHouses village now sights_count fits kinds moons places values p1).2.2.2.2.1))) ∧ w2 (A 14) = some (.inl (g.2.2.1 1, 64, .inr (.inl ((f_X8_setAt tales_away tales_unseenWays tales_seenHouses village now sights_count fits kinds moons places values p1).2.2.2.2.2)))) ∧ wE (fun q => q = (A 13) ∨ q = (A 14)) w0 w2) := by
  refine CT.of (own := RX8) (by decide +kernel) rfl (Nat.le_of_ble_eq_true rfl) (fun X hC hR hI => ?_)
  show V g X 2 w0 0 0 0 [(0, .ref (A 0)), (1, .int p1)] []
  have hE : wE (fun q => q = (A 13) ∨ q = (A 14)) w0 w0 := wE.refl
  refine vv_aload_n hC 0 dX8_setAt_0 rfl rfl ?_
  refine vv_callV hC dX8_setAt_1 md_X8_tellTales lk_m_X8_220 lk_i_X8_tellTales lk_s_X8_tellTales h_who rfl (As := []) (rest := []) (c_X8_tellTales g w0 A hA vi who_keptSlots who_seed tales_people tales_away tales_unseenWays tales_seenHouses village now sights_count fits kinds moons places values (by omega) (by omega) (by omega) h_who h_tales h_village h_now h_sights h_fits h_kinds h_moons h_places h_values) rfl rfl (Nat.le_of_ble_eq_true rfl) ⟨by decide, by decide, by decide, by decide⟩ (fun r w9 hq => ?_)
  obtain ⟨rfl, t1, t2, hs⟩ := hq
  obtain ⟨w1, rfl⟩ : ∃ z, z = w9 := ⟨_, rfl⟩
  have h_who := hs _ _ (fun z => z.elim (fw_oo h_who h_tales (by decide)) (fw_oa h_who h_fits)) h_who
  have h_village := hs _ _ (fun z => z.elim (fw_oo h_village h_tales (by decide)) (fw_oa h_village h_fits)) h_village
  have h_now := hs _ _ (fun z => z.elim (fw_oo h_now h_tales (by decide)) (fw_oa h_now h_fits)) h_now
  have h_sights := hs _ _ (fun z => z.elim (fw_oo h_sights h_tales (by decide)) (fw_oa h_sights h_fits)) h_sights
  have h_kinds := hs _ _ (fun z => z.elim (fw_ao h_kinds h_tales) (fw_inj hA (by decide) (by decide) (by decide))) h_kinds
  have h_moons := hs _ _ (fun z => z.elim (fw_ao h_moons h_tales) (fw_inj hA (by decide) (by decide) (by decide))) h_moons
  have h_places := hs _ _ (fun z => z.elim (fw_ao h_places h_tales) (fw_inj hA (by decide) (by decide) (by decide))) h_places
  have h_values := hs _ _ (fun z => z.elim (fw_ao h_values h_tales) (fw_inj hA (by decide) (by decide) (by decide))) h_values
  have h_tales := t1
  have h_fits := t2
  have hE := hE.trans (hs.mono (fun _ z => z.elim (fun z => (Or.inl z)) (fun z => (Or.inr z))))
  show V g X 2 w1 0 0 4 [(0, .ref (A 0)), (1, .int p1)] []
  refine vv_aload_n hC 0 dX8_setAt_4 rfl rfl ?_
  refine vv_get (v := .ref (A 13)) hC fl_X8_58 dX8_setAt_5 h_who rfl ?_
  refine vv_iload_n hC 1 dX8_setAt_8 rfl rfl ?_
  refine vv_callV hC dX8_setAt_9 md_X5_setNumbered lk_m_X8_230 lk_i_X5_setNumbered lk_s_X5_setNumbered h_tales rfl (As := [.int p1]) (rest := []) (c_X5_setNumbered g w1 (A 13) (A 14) (A 15) (A 16) ((f_X8_tellTales tales_away tales_unseenWays tales_seenHouses village now sights_count fits kinds moons places values).1) ((f_X8_tellTales tales_away tales_unseenWays tales_seenHouses village now sights_count fits kinds moons places values).2.1) ((f_X8_tellTales tales_away tales_unseenWays tales_seenHouses village now sights_count fits kinds moons places values).2.2.1) ((f_X8_tellTales tales_away tales_unseenWays tales_seenHouses village now sights_count fits kinds moons places values).2.2.2.1) ((f_X8_tellTales tales_away tales_unseenWays tales_seenHouses village now sights_count fits kinds moons places values).2.2.2.2) p1 h_tales h_fits) rfl rfl (Nat.le_of_ble_eq_true rfl) ⟨by decide, by decide, by decide, by decide⟩ (fun r w9 hq => ?_)
  obtain ⟨rfl, rfl⟩ := hq
  show V g X 2 w1 0 0 12 [(0, .ref (A 0)), (1, .int p1)] [.int (f_X5_setNumbered ((f_X8_tellTales tales_away tales_unseenWays tales_seenHouses village now sights_count fits kinds moons places values).2.2.2.2) p1)]
  have hf : (f_X8_setAt tales_away tales_unseenWays tales_seenHouses village now sights_count fits kinds moons places values p1) = (f_X5_setNumbered ((f_X8_tellTales tales_away tales_unseenWays tales_seenHouses village now sights_count fits kinds moons places values).2.2.2.2) p1, (f_X8_tellTales tales_away tales_unseenWays tales_seenHouses village now sights_count fits kinds moons places values).1, (f_X8_tellTales tales_away tales_unseenWays tales_seenHouses village now sights_count fits kinds moons places values).2.1, (f_X8_tellTales tales_away tales_unseenWays tales_seenHouses village now sights_count fits kinds moons places values).2.2.1, (f_X8_tellTales tales_away tales_unseenWays tales_seenHouses village now sights_count fits kinds moons places values).2.2.2.1, (f_X8_tellTales tales_away tales_unseenWays tales_seenHouses village now sights_count fits kinds moons places values).2.2.2.2) := by first | (simp only [f_X8_setAt]; done) | rfl | (simp only [f_X8_setAt]; rfl)
  refine vv_iret hC hR rfl dX8_setAt_12 (by omega) (by omega) ?_
  rw [hf]
  try dsimp only
  exact ⟨rfl, h_tales, h_fits, hE⟩
def f_X8_seed (who_seed : Int64) (p1 : Int64) : Int64 × Int64 := (who_seed, p1)
set_option maxHeartbeats 4000000 in
set_option maxRecDepth 100000 in
theorem c_X8_seed (g : GT) (w0 : Wd) (A : Nat → Nat) (hA : ∀ i j, i < 60 → j < 60 → A i = A j → i = j) (vi : Nat) (who_keptSlots : Int32) (who_seed : Int64) (p1 : Int64) (h_who : w0 (A 0) = some (.inr (8, cWh A vi (who_keptSlots, who_seed)))) : CT g yX8_seed cX8_seed 5 (some .long) 0 0 0 0 w0 [.ref (A 0), .long p1] (fun r w2 => r = some (.long ((f_X8_seed who_seed p1).1)) ∧ w2 (A 0) = some (.inr (8, cWh A vi (who_keptSlots, (f_X8_seed who_seed p1).2))) ∧ wE (fun q => q = (A 0)) w0 w2) := by
  refine CT.of (own := RX8) (by decide +kernel) rfl (Nat.le_of_ble_eq_true rfl) (fun X hC hR hI => ?_)
  show V g X 5 w0 0 0 0 [(0, .ref (A 0)), (1, .long p1)] []
  have hE : wE (fun q => q = (A 0)) w0 w0 := wE.refl
  refine vv_aload_n hC 0 dX8_seed_0 rfl rfl ?_
  refine vv_get (v := .long who_seed) hC fl_X8_69 dX8_seed_1 h_who rfl ?_
  refine vv_lstore_n (lv2 := [(3, .long who_seed), (0, .ref (A 0)), (1, .long p1)]) hC dX8_seed_4 rfl (by decide) rfl ?_
  refine vv_aload_n hC 1 dX8_seed_5 rfl rfl ?_
  refine vv_lload_n hC 2 dX8_seed_6 rfl rfl ?_
  refine vv_put hC fp_X8_69 dX8_seed_7 h_who rfl rfl (Nat.le_of_ble_eq_true rfl) (fun w1 t1 hs => ?_)
  have t1 : w1 (A 0) = some (.inr (8, cWh A vi (who_keptSlots, p1))) := t1.trans (congrArg (fun z => some (Sum.inr (8, z))) (eWh_seed _ _ _ _ _))
  have h_who := t1
  have hE := hE.trans (hs.mono (fun _ z => z))
  refine vv_lload_n hC 0 dX8_seed_10 rfl rfl ?_
  have hf : (f_X8_seed who_seed p1) = (who_seed, p1) := by first | (simp only [f_X8_seed]; done) | rfl | (simp only [f_X8_seed]; rfl)
  refine vv_lret hC hR rfl dX8_seed_11 (by omega) (by omega) ?_
  rw [hf]
  try dsimp only
  exact ⟨rfl, h_who, hE⟩
def f_X8_count (text_length : Nat) (village : TVi) (now : TN) (acts_count : Nat) (sights_count : Nat) (p1 : Int32) : Int32 := (if p1 = 0 then nI text_length else (if p1 = 1 then nI (gVi_houses village) else (if p1 = 2 then nI (gVi_people village) else (if p1 = 3 then gN_number now else (if p1 = 4 then (gN_wolves now &&& f_X2_there now village) else (if p1 = 5 then f_X2_there now village else (if p1 = 6 then f_X2_allSheep now else (if p1 = 7 then nI acts_count else (if p1 = 8 then nI sights_count else (if p1 = 9 then nI (gVi_pathCount village) else (if p1 = 10 then f_X2_openHouses now village else (-2))))))))))))
set_option maxHeartbeats 4000000 in
set_option maxRecDepth 100000 in
theorem c_X8_count (g : GT) (w0 : Wd) (A : Nat → Nat) (hA : ∀ i j, i < 60 → j < 60 → A i = A j → i = j) (vi : Nat) (who_keptSlots : Int32) (who_seed : Int64) (text_length : Nat) (village : TVi) (now : TN) (acts_start : Nat) (acts_count : Nat) (sights_count : Nat) (p1 : Int32) (hvh : gVi_houses village ≤ 4) (hvp : gVi_people village ≤ 6) (h_who : w0 (A 0) = some (.inr (8, cWh A vi (who_keptSlots, who_seed)))) (h_text : w0 (A 1) = some (.inr (6, cTx (A 2) text_length))) (h_village : w0 vi = some (.inr (7, cVi village))) (h_now : w0 (A 3) = some (.inr (2, cN now))) (h_acts : w0 (A 5) = some (.inr (0, cAc (A 6) (acts_start, acts_count)))) (h_sights : w0 (A 8) = some (.inr (4, cSi (A 9) (A 10) (A 11) (A 12) sights_count))) : CT g yX8_count cX8_count 2 (some .int) 2 44 0 0 w0 [.ref (A 0), .int p1] (fun r w2 => r = some (.int (f_X8_count text_length village now acts_count sights_count p1)) ∧ w0 = w2) := by
  refine CT.of (own := RX8) (by decide +kernel) rfl (Nat.le_of_ble_eq_true rfl) (fun X hC hR hI => ?_)
  show V g X 2 w0 0 0 0 [(0, .ref (A 0)), (1, .int p1)] []
  refine vv_iload_n hC 1 dX8_count_0 rfl rfl ?_
  by_cases c1 : p1 = 0
  · refine vv_tableIn hC 60 dX8_count_1 (by rw [c1]; decide) (by rw [c1]; decide) (by rw [c1] <;> rfl) (by decide) ?_
    refine vv_aload_n hC 0 dX8_count_60 rfl rfl ?_
    refine vv_get (v := .ref (A 1)) hC fl_X8_10 dX8_count_61 h_who rfl ?_
    refine vv_getN (v := .int (nI text_length)) hC fl_X8_77 dX8_count_64 h_text rfl ?_
    have hf : (f_X8_count text_length village now acts_count sights_count p1) = nI text_length := by first | (simp only [f_X8_count, if_pos c1]; done) | rfl | (simp only [f_X8_count, if_pos c1]; rfl)
    refine vv_iret hC hR rfl dX8_count_67 (by omega) (by omega) ?_
    rw [hf]
    exact ⟨rfl, rfl⟩
  · by_cases c2 : p1 = 1
    · refine vv_tableIn hC 68 dX8_count_1 (by rw [c2]; decide) (by rw [c2]; decide) (by rw [c2] <;> rfl) (by decide) ?_
      refine vv_aload_n hC 0 dX8_count_68 rfl rfl ?_
      refine vv_get (v := .ref vi) hC fl_X8_19 dX8_count_69 h_who rfl ?_
      refine vv_getN (v := .int (nI (gVi_houses village))) hC fl_X8_101 dX8_count_72 h_village rfl ?_
      have hf : (f_X8_count text_length village now acts_count sights_count p1) = nI (gVi_houses village) := by first | (simp only [f_X8_count, if_neg c1, if_pos c2]; done) | rfl | (simp only [f_X8_count, if_neg c1, if_pos c2]; rfl)
      refine vv_iret hC hR rfl dX8_count_75 (by omega) (by omega) ?_
      rw [hf]
      exact ⟨rfl, rfl⟩
    · by_cases c3 : p1 = 2
      · refine vv_tableIn hC 76 dX8_count_1 (by rw [c3]; decide) (by rw [c3]; decide) (by rw [c3] <;> rfl) (by decide) ?_
        refine vv_aload_n hC 0 dX8_count_76 rfl rfl ?_
        refine vv_get (v := .ref vi) hC fl_X8_19 dX8_count_77 h_who rfl ?_
        refine vv_getN (v := .int (nI (gVi_people village))) hC fl_X8_104 dX8_count_80 h_village rfl ?_
        have hf : (f_X8_count text_length village now acts_count sights_count p1) = nI (gVi_people village) := by first | (simp only [f_X8_count, if_neg c1, if_neg c2, if_pos c3]; done) | rfl | (simp only [f_X8_count, if_neg c1, if_neg c2, if_pos c3]; rfl)
        refine vv_iret hC hR rfl dX8_count_83 (by omega) (by omega) ?_
        rw [hf]
        exact ⟨rfl, rfl⟩
      · by_cases c4 : p1 = 3
        · refine vv_tableIn hC 84 dX8_count_1 (by rw [c4]; decide) (by rw [c4]; decide) (by rw [c4] <;> rfl) (by decide) ?_
          refine vv_aload_n hC 0 dX8_count_84 rfl rfl ?_
          refine vv_get (v := .ref (A 3)) hC fl_X8_26 dX8_count_85 h_who rfl ?_
          refine vv_getN (v := .int (gN_number now)) hC fl_X8_297 dX8_count_88 h_now rfl ?_
          have hf : (f_X8_count text_length village now acts_count sights_count p1) = gN_number now := by first | (simp only [f_X8_count, if_neg c1, if_neg c2, if_neg c3, if_pos c4]; done) | rfl | (simp only [f_X8_count, if_neg c1, if_neg c2, if_neg c3, if_pos c4]; rfl)
          refine vv_iret hC hR rfl dX8_count_91 (by omega) (by omega) ?_
          rw [hf]
          exact ⟨rfl, rfl⟩
        · by_cases c5 : p1 = 4
          · refine vv_tableIn hC 92 dX8_count_1 (by rw [c5]; decide) (by rw [c5]; decide) (by rw [c5] <;> rfl) (by decide) ?_
            refine vv_aload_n hC 0 dX8_count_92 rfl rfl ?_
            refine vv_get (v := .ref (A 3)) hC fl_X8_26 dX8_count_93 h_who rfl ?_
            refine vv_getN (v := .int (gN_wolves now)) hC fl_X8_140 dX8_count_96 h_now rfl ?_
            refine vv_aload_n hC 0 dX8_count_99 rfl rfl ?_
            refine vv_get (v := .ref (A 3)) hC fl_X8_26 dX8_count_100 h_who rfl ?_
            refine vv_aload_n hC 0 dX8_count_103 rfl rfl ?_
            refine vv_get (v := .ref vi) hC fl_X8_19 dX8_count_104 h_who rfl ?_
            refine vv_callV hC dX8_count_107 md_X2_there lk_m_X8_236 lk_i_X2_there lk_s_X2_there h_now rfl (As := [.ref vi]) (rest := [.int (gN_wolves now)]) (c_X2_there g w0 (A 3) vi now village h_now h_village) rfl rfl (Nat.le_of_ble_eq_true rfl) ⟨by decide, by decide, by decide, by decide⟩ (fun r w9 hq => ?_)
            obtain ⟨rfl, rfl⟩ := hq
            show V g X 2 w0 0 0 110 [(0, .ref (A 0)), (1, .int p1)] [.int (f_X2_there now village), .int (gN_wolves now)]
            refine vv_iand hC dX8_count_110 ?_
            have hf : (f_X8_count text_length village now acts_count sights_count p1) = (gN_wolves now &&& f_X2_there now village) := by first | (simp only [f_X8_count, if_neg c1, if_neg c2, if_neg c3, if_neg c4, if_pos c5]; done) | rfl | (simp only [f_X8_count, if_neg c1, if_neg c2, if_neg c3, if_neg c4, if_pos c5]; rfl)
            refine vv_iret hC hR rfl dX8_count_111 (by omega) (by omega) ?_
            rw [hf]
            exact ⟨rfl, rfl⟩
          · by_cases c6 : p1 = 5
            · refine vv_tableIn hC 112 dX8_count_1 (by rw [c6]; decide) (by rw [c6]; decide) (by rw [c6] <;> rfl) (by decide) ?_
              refine vv_aload_n hC 0 dX8_count_112 rfl rfl ?_
              refine vv_get (v := .ref (A 3)) hC fl_X8_26 dX8_count_113 h_who rfl ?_
              refine vv_aload_n hC 0 dX8_count_116 rfl rfl ?_
              refine vv_get (v := .ref vi) hC fl_X8_19 dX8_count_117 h_who rfl ?_
              refine vv_callV hC dX8_count_120 md_X2_there lk_m_X8_236 lk_i_X2_there lk_s_X2_there h_now rfl (As := [.ref vi]) (rest := []) (c_X2_there g w0 (A 3) vi now village h_now h_village) rfl rfl (Nat.le_of_ble_eq_true rfl) ⟨by decide, by decide, by decide, by decide⟩ (fun r w9 hq => ?_)
              obtain ⟨rfl, rfl⟩ := hq
              show V g X 2 w0 0 0 123 [(0, .ref (A 0)), (1, .int p1)] [.int (f_X2_there now village)]
              have hf : (f_X8_count text_length village now acts_count sights_count p1) = f_X2_there now village := by first | (simp only [f_X8_count, if_neg c1, if_neg c2, if_neg c3, if_neg c4, if_neg c5, if_pos c6]; done) | rfl | (simp only [f_X8_count, if_neg c1, if_neg c2, if_neg c3, if_neg c4, if_neg c5, if_pos c6]; rfl)
              refine vv_iret hC hR rfl dX8_count_123 (by omega) (by omega) ?_
              rw [hf]
              exact ⟨rfl, rfl⟩
            · by_cases c7 : p1 = 6
              · refine vv_tableIn hC 124 dX8_count_1 (by rw [c7]; decide) (by rw [c7]; decide) (by rw [c7] <;> rfl) (by decide) ?_
                refine vv_aload_n hC 0 dX8_count_124 rfl rfl ?_
                refine vv_get (v := .ref (A 3)) hC fl_X8_26 dX8_count_125 h_who rfl ?_
                refine vv_callV hC dX8_count_128 md_X2_allSheep lk_m_X8_300 lk_i_X2_allSheep lk_s_X2_allSheep h_now rfl (As := []) (rest := []) (c_X2_allSheep g w0 (A 3) now h_now) rfl rfl (Nat.le_of_ble_eq_true rfl) ⟨by decide, by decide, by decide, by decide⟩ (fun r w9 hq => ?_)
                obtain ⟨rfl, rfl⟩ := hq
                show V g X 2 w0 0 0 131 [(0, .ref (A 0)), (1, .int p1)] [.int (f_X2_allSheep now)]
                have hf : (f_X8_count text_length village now acts_count sights_count p1) = f_X2_allSheep now := by first | (simp only [f_X8_count, if_neg c1, if_neg c2, if_neg c3, if_neg c4, if_neg c5, if_neg c6, if_pos c7]; done) | rfl | (simp only [f_X8_count, if_neg c1, if_neg c2, if_neg c3, if_neg c4, if_neg c5, if_neg c6, if_pos c7]; rfl)
                refine vv_iret hC hR rfl dX8_count_131 (by omega) (by omega) ?_
                rw [hf]
                exact ⟨rfl, rfl⟩
              · by_cases c8 : p1 = 7
                · refine vv_tableIn hC 132 dX8_count_1 (by rw [c8]; decide) (by rw [c8]; decide) (by rw [c8] <;> rfl) (by decide) ?_
                  refine vv_aload_n hC 0 dX8_count_132 rfl rfl ?_
                  refine vv_get (v := .ref (A 5)) hC fl_X8_36 dX8_count_133 h_who rfl ?_
                  refine vv_getN (v := .int (nI acts_count)) hC fl_X8_195 dX8_count_136 h_acts rfl ?_
                  have hf : (f_X8_count text_length village now acts_count sights_count p1) = nI acts_count := by first | (simp only [f_X8_count, if_neg c1, if_neg c2, if_neg c3, if_neg c4, if_neg c5, if_neg c6, if_neg c7, if_pos c8]; done) | rfl | (simp only [f_X8_count, if_neg c1, if_neg c2, if_neg c3, if_neg c4, if_neg c5, if_neg c6, if_neg c7, if_pos c8]; rfl)
                  refine vv_iret hC hR rfl dX8_count_139 (by omega) (by omega) ?_
                  rw [hf]
                  exact ⟨rfl, rfl⟩
                · by_cases c9 : p1 = 8
                  · refine vv_tableIn hC 140 dX8_count_1 (by rw [c9]; decide) (by rw [c9]; decide) (by rw [c9] <;> rfl) (by decide) ?_
                    refine vv_aload_n hC 0 dX8_count_140 rfl rfl ?_
                    refine vv_get (v := .ref (A 8)) hC fl_X8_51 dX8_count_141 h_who rfl ?_
                    refine vv_getN (v := .int (nI sights_count)) hC fl_X8_219 dX8_count_144 h_sights rfl ?_
                    have hf : (f_X8_count text_length village now acts_count sights_count p1) = nI sights_count := by first | (simp only [f_X8_count, if_neg c1, if_neg c2, if_neg c3, if_neg c4, if_neg c5, if_neg c6, if_neg c7, if_neg c8, if_pos c9]; done) | rfl | (simp only [f_X8_count, if_neg c1, if_neg c2, if_neg c3, if_neg c4, if_neg c5, if_neg c6, if_neg c7, if_neg c8, if_pos c9]; rfl)
                    refine vv_iret hC hR rfl dX8_count_147 (by omega) (by omega) ?_
                    rw [hf]
                    exact ⟨rfl, rfl⟩
                  · by_cases c10 : p1 = 9
                    · refine vv_tableIn hC 148 dX8_count_1 (by rw [c10]; decide) (by rw [c10]; decide) (by rw [c10] <;> rfl) (by decide) ?_
                      refine vv_aload_n hC 0 dX8_count_148 rfl rfl ?_
                      refine vv_get (v := .ref vi) hC fl_X8_19 dX8_count_149 h_who rfl ?_
                      refine vv_getN (v := .int (nI (gVi_pathCount village))) hC fl_X8_303 dX8_count_152 h_village rfl ?_
                      have hf : (f_X8_count text_length village now acts_count sights_count p1) = nI (gVi_pathCount village) := by first | (simp only [f_X8_count, if_neg c1, if_neg c2, if_neg c3, if_neg c4, if_neg c5, if_neg c6, if_neg c7, if_neg c8, if_neg c9, if_pos c10]; done) | rfl | (simp only [f_X8_count, if_neg c1, if_neg c2, if_neg c3, if_neg c4, if_neg c5, if_neg c6, if_neg c7, if_neg c8, if_neg c9, if_pos c10]; rfl)
                      refine vv_iret hC hR rfl dX8_count_155 (by omega) (by omega) ?_
                      rw [hf]
                      exact ⟨rfl, rfl⟩
                    · by_cases c11 : p1 = 10
                      · refine vv_tableIn hC 156 dX8_count_1 (by rw [c11]; decide) (by rw [c11]; decide) (by rw [c11] <;> rfl) (by decide) ?_
                        refine vv_aload_n hC 0 dX8_count_156 rfl rfl ?_
                        refine vv_get (v := .ref (A 3)) hC fl_X8_26 dX8_count_157 h_who rfl ?_
                        refine vv_aload_n hC 0 dX8_count_160 rfl rfl ?_
                        refine vv_get (v := .ref vi) hC fl_X8_19 dX8_count_161 h_who rfl ?_
                        refine vv_callV hC dX8_count_164 md_X2_openHouses lk_m_X8_306 lk_i_X2_openHouses lk_s_X2_openHouses h_now rfl (As := [.ref vi]) (rest := []) (c_X2_openHouses g w0 (A 3) vi now village h_now h_village) rfl rfl (Nat.le_of_ble_eq_true rfl) ⟨by decide, by decide, by decide, by decide⟩ (fun r w9 hq => ?_)
                        obtain ⟨rfl, rfl⟩ := hq
                        show V g X 2 w0 0 0 167 [(0, .ref (A 0)), (1, .int p1)] [.int (f_X2_openHouses now village)]
                        have hf : (f_X8_count text_length village now acts_count sights_count p1) = f_X2_openHouses now village := by first | (simp only [f_X8_count, if_neg c1, if_neg c2, if_neg c3, if_neg c4, if_neg c5, if_neg c6, if_neg c7, if_neg c8, if_neg c9, if_neg c10, if_pos c11]; done) | rfl | (simp only [f_X8_count, if_neg c1, if_neg c2, if_neg c3, if_neg c4, if_neg c5, if_neg c6, if_neg c7, if_neg c8, if_neg c9, if_neg c10, if_pos c11]; rfl)
                        refine vv_iret hC hR rfl dX8_count_167 (by omega) (by omega) ?_
                        rw [hf]
                        exact ⟨rfl, rfl⟩
                      · have e_c1 : ¬ (p1).toInt = 0 := fun h => c1 (Int32.toInt_inj.mp (h.trans (by decide)))
                        have e_c2 : ¬ (p1).toInt = 1 := fun h => c2 (Int32.toInt_inj.mp (h.trans (by decide)))
                        have e_c3 : ¬ (p1).toInt = 2 := fun h => c3 (Int32.toInt_inj.mp (h.trans (by decide)))
                        have e_c4 : ¬ (p1).toInt = 3 := fun h => c4 (Int32.toInt_inj.mp (h.trans (by decide)))
                        have e_c5 : ¬ (p1).toInt = 4 := fun h => c5 (Int32.toInt_inj.mp (h.trans (by decide)))
                        have e_c6 : ¬ (p1).toInt = 5 := fun h => c6 (Int32.toInt_inj.mp (h.trans (by decide)))
                        have e_c7 : ¬ (p1).toInt = 6 := fun h => c7 (Int32.toInt_inj.mp (h.trans (by decide)))
                        have e_c8 : ¬ (p1).toInt = 7 := fun h => c8 (Int32.toInt_inj.mp (h.trans (by decide)))
                        have e_c9 : ¬ (p1).toInt = 8 := fun h => c9 (Int32.toInt_inj.mp (h.trans (by decide)))
                        have e_c10 : ¬ (p1).toInt = 9 := fun h => c10 (Int32.toInt_inj.mp (h.trans (by decide)))
                        have e_c11 : ¬ (p1).toInt = 10 := fun h => c11 (Int32.toInt_inj.mp (h.trans (by decide)))
                        refine vv_tableOut hC 168 dX8_count_1 (by omega) (by decide) ?_
                        refine vv_bipush (v := (-2)) hC dX8_count_168 (by decide) ?_
                        have hf : (f_X8_count text_length village now acts_count sights_count p1) = (-2) := by first | (simp only [f_X8_count, if_neg c1, if_neg c2, if_neg c3, if_neg c4, if_neg c5, if_neg c6, if_neg c7, if_neg c8, if_neg c9, if_neg c10, if_neg c11]; done) | rfl | (simp only [f_X8_count, if_neg c1, if_neg c2, if_neg c3, if_neg c4, if_neg c5, if_neg c6, if_neg c7, if_neg c8, if_neg c9, if_neg c10, if_neg c11]; rfl)
                        refine vv_iret hC hR rfl dX8_count_170 (by omega) (by omega) ?_
                        rw [hf]
                        exact ⟨rfl, rfl⟩
def f_X8_safe_L19 (now : TN) (village : TVi) : Nat → Nat → Int32 → Int32 → Int32 × Int32
  | 0, k19, l2_19, l3_19 => (l2_19, l3_19)
  | r19 + 1, k19, l2_19, l3_19 => f_X8_safe_L19 now village r19 (k19 + 1) (if f_X8_has (f_X2_there now village &&& gN_wolves now) (nI k19) = true then (l2_19 ||| f_X2_reach now village (nI k19)) else l2_19) (if f_X8_has (f_X2_there now village &&& gN_wolves now) (nI k19) = true then l3_19 else (if f_X8_has (f_X2_there now village) (nI k19) = true then (l3_19 ||| f_X8_bit (f_X8_cell (gVi_homes village) (nI k19))) else l3_19))
def f_X8_safe (now : TN) (village : TVi) : Int32 := ((f_X8_safe_L19 now village (gVi_people village) 0 0 0).1 &&& (f_X8_safe_L19 now village (gVi_people village) 0 0 0).2)
set_option maxHeartbeats 4000000 in
set_option maxRecDepth 100000 in
theorem c_X8_safe (g : GT) (w0 : Wd) (A : Nat → Nat) (hA : ∀ i j, i < 60 → j < 60 → A i = A j → i = j) (vi : Nat) (who_keptSlots : Int32) (who_seed : Int64) (now : TN) (village : TVi) (hvh : gVi_houses village ≤ 4) (hvp : gVi_people village ≤ 6) (h_who : w0 (A 0) = some (.inr (8, cWh A vi (who_keptSlots, who_seed)))) (h_now : w0 (A 3) = some (.inr (2, cN now))) (h_village : w0 vi = some (.inr (7, cVi village))) : CT g yX8_safe cX8_safe 5 (some .int) 3 64 0 0 w0 [.ref (A 0)] (fun r w2 => r = some (.int (f_X8_safe now village)) ∧ w0 = w2) := by
  refine CT.of (own := RX8) (by decide +kernel) rfl (Nat.le_of_ble_eq_true rfl) (fun X hC hR hI => ?_)
  show V g X 5 w0 0 0 0 [(0, .ref (A 0))] []
  refine vv_aload_n hC 0 dX8_safe_0 rfl rfl ?_
  refine vv_get (v := .ref (A 3)) hC fl_X8_26 dX8_safe_1 h_who rfl ?_
  refine vv_aload_n hC 0 dX8_safe_4 rfl rfl ?_
  refine vv_get (v := .ref vi) hC fl_X8_19 dX8_safe_5 h_who rfl ?_
  refine vv_callV hC dX8_safe_8 md_X2_there lk_m_X8_236 lk_i_X2_there lk_s_X2_there h_now rfl (As := [.ref vi]) (rest := []) (c_X2_there g w0 (A 3) vi now village h_now h_village) rfl rfl (Nat.le_of_ble_eq_true rfl) ⟨by decide, by decide, by decide, by decide⟩ (fun r w9 hq => ?_)
  obtain ⟨rfl, rfl⟩ := hq
  show V g X 5 w0 0 0 11 [(0, .ref (A 0))] [.int (f_X2_there now village)]
  refine vv_istore_n (lv2 := [(1, .int (f_X2_there now village)), (0, .ref (A 0))]) hC dX8_safe_11 rfl (by decide) rfl ?_
  refine vv_iconst (v := 0) hC dX8_safe_12 (by decide) ?_
  refine vv_istore_n (lv2 := [(2, .int 0), (1, .int (f_X2_there now village)), (0, .ref (A 0))]) hC dX8_safe_13 rfl (by decide) rfl ?_
  refine vv_iconst (v := 0) hC dX8_safe_14 (by decide) ?_
  refine vv_istore_n (lv2 := [(3, .int 0), (2, .int 0), (1, .int (f_X2_there now village)), (0, .ref (A 0))]) hC dX8_safe_15 rfl (by decide) rfl ?_
  refine vv_iconst (v := 0) hC dX8_safe_16 (by decide) ?_
  refine vv_istore (lv2 := [(4, .int 0), (3, .int 0), (2, .int 0), (1, .int (f_X2_there now village)), (0, .ref (A 0))]) hC dX8_safe_17 (by decide) rfl ?_
  have hL4 : ∀ (r19 k19 : Nat) (l2_19 : Int32) (l3_19 : Int32) (out : Int32 × Int32), k19 + r19 = gVi_people village → out = f_X8_safe_L19 now village r19 k19 l2_19 l3_19 → V g X 5 w0 0 0 100 [(0, .ref (A 0)), (1, .int (f_X2_there now village)), (2, .int out.1), (3, .int out.2)] [] → V g X 5 w0 0 0 19 [(0, .ref (A 0)), (1, .int (f_X2_there now village)), (2, .int l2_19), (3, .int l3_19), (4, .int (nI k19))] [] := by
    intro r19
    induction r19 with
    | zero =>
      intro k19 l2_19 l3_19 out hb ho hk
      refine vv_iload hC 4 dX8_safe_19 rfl ?_
      refine vv_aload_n hC 0 dX8_safe_21 rfl rfl ?_
      refine vv_get (v := .ref vi) hC fl_X8_19 dX8_safe_22 h_who rfl ?_
      refine vv_getN (v := .int (nI (gVi_people village))) hC fl_X8_104 dX8_safe_25 h_village rfl ?_
      refine vv_icmp_ge hC 100 dX8_safe_28 (by decide) (fun c => ?_) (fun c => False.elim (c ((nI_le_ (a := gVi_people village) (b := k19) (by omega) (by omega)).mpr (by omega))))
      refine vv_lv [0, 1, 2, 3] rfl ?_
      have ho := ho.trans (by first | (simp only [f_X8_safe_L19]; done) | rfl | (simp only [f_X8_safe_L19]; rfl) : _ = (l2_19, l3_19))
      subst ho
      exact hk
    | succ r19 ih =>
      intro k19 l2_19 l3_19 out hb ho hk
      refine vv_iload hC 4 dX8_safe_19 rfl ?_
      refine vv_aload_n hC 0 dX8_safe_21 rfl rfl ?_
      refine vv_get (v := .ref vi) hC fl_X8_19 dX8_safe_22 h_who rfl ?_
      refine vv_getN (v := .int (nI (gVi_people village))) hC fl_X8_104 dX8_safe_25 h_village rfl ?_
      refine vv_icmp_ge hC 100 dX8_safe_28 (by decide) (fun c => absurd ((nI_le_ (a := gVi_people village) (b := k19) (by omega) (by omega)).mp c) (by first | omega | decide)) (fun c => ?_)
      refine vv_iload_n hC 1 dX8_safe_31 rfl rfl ?_
      refine vv_aload_n hC 0 dX8_safe_32 rfl rfl ?_
      refine vv_get (v := .ref (A 3)) hC fl_X8_26 dX8_safe_33 h_who rfl ?_
      refine vv_getN (v := .int (gN_wolves now)) hC fl_X8_140 dX8_safe_36 h_now rfl ?_
      refine vv_iand hC dX8_safe_39 ?_
      refine vv_iload hC 4 dX8_safe_40 rfl ?_
      refine vv_callS hC dX8_safe_42 md_X8_has lk_m_X8_166 lk_t_X8_has (As := [.int (f_X2_there now village &&& gN_wolves now), .int (nI k19)]) (rest := []) (c_X8_has g w0 (f_X2_there now village &&& gN_wolves now) (nI k19)) rfl rfl (Nat.le_of_ble_eq_true rfl) ⟨by decide, by decide, by decide, by decide⟩ (fun r w9 hq => ?_)
      obtain ⟨rfl, rfl⟩ := hq
      show V g X 5 w0 0 0 45 [(0, .ref (A 0)), (1, .int (f_X2_there now village)), (2, .int l2_19), (3, .int l3_19), (4, .int (nI k19))] [.int (bI (f_X8_has (f_X2_there now village &&& gN_wolves now) (nI k19)))]
      have hJ2 : V g X 5 w0 0 0 94 [(0, .ref (A 0)), (1, .int (f_X2_there now village)), (2, .int (if f_X8_has (f_X2_there now village &&& gN_wolves now) (nI k19) = true then (l2_19 ||| f_X2_reach now village (nI k19)) else l2_19)), (3, .int (if f_X8_has (f_X2_there now village &&& gN_wolves now) (nI k19) = true then l3_19 else (if f_X8_has (f_X2_there now village) (nI k19) = true then (l3_19 ||| f_X8_bit (f_X8_cell (gVi_homes village) (nI k19))) else l3_19))), (4, .int (nI k19))] [] := by
        refine vv_iinc (lv2 := [(4, .int (nI (k19 + 1))), (0, .ref (A 0)), (1, .int (f_X2_there now village)), (2, .int (if f_X8_has (f_X2_there now village &&& gN_wolves now) (nI k19) = true then (l2_19 ||| f_X2_reach now village (nI k19)) else l2_19)), (3, .int (if f_X8_has (f_X2_there now village &&& gN_wolves now) (nI k19) = true then l3_19 else (if f_X8_has (f_X2_there now village) (nI k19) = true then (l3_19 ||| f_X8_bit (f_X8_cell (gVi_homes village) (nI k19))) else l3_19)))]) hC 4 dX8_safe_94 rfl (nI_add k19 1) (by decide) rfl ?_
        refine vv_goto hC 19 dX8_safe_97 (by decide) ?_
        refine vv_lv [1, 2, 3, 4, 0] rfl ?_
        exact ih (k19 + 1) (if f_X8_has (f_X2_there now village &&& gN_wolves now) (nI k19) = true then (l2_19 ||| f_X2_reach now village (nI k19)) else l2_19) (if f_X8_has (f_X2_there now village &&& gN_wolves now) (nI k19) = true then l3_19 else (if f_X8_has (f_X2_there now village) (nI k19) = true then (l3_19 ||| f_X8_bit (f_X8_cell (gVi_homes village) (nI k19))) else l3_19)) out (by omega) (ho.trans (by first | (simp only [f_X8_safe_L19]; done) | rfl | (simp only [f_X8_safe_L19]; rfl))) hk
      refine vv_if_eq hC 67 dX8_safe_45 (by decide) (fun c1 => ?_) (fun c1 => ?_)
      · have c1 : ¬ (f_X8_has (f_X2_there now village &&& gN_wolves now) (nI k19) = true) := bI_f c1
        refine vv_iload_n hC 1 dX8_safe_67 rfl rfl ?_
        refine vv_iload hC 4 dX8_safe_68 rfl ?_
        refine vv_callS hC dX8_safe_70 md_X8_has lk_m_X8_166 lk_t_X8_has (As := [.int (f_X2_there now village), .int (nI k19)]) (rest := []) (c_X8_has g w0 (f_X2_there now village) (nI k19)) rfl rfl (Nat.le_of_ble_eq_true rfl) ⟨by decide, by decide, by decide, by decide⟩ (fun r w9 hq => ?_)
        obtain ⟨rfl, rfl⟩ := hq
        show V g X 5 w0 0 0 73 [(0, .ref (A 0)), (1, .int (f_X2_there now village)), (2, .int l2_19), (3, .int l3_19), (4, .int (nI k19))] [.int (bI (f_X8_has (f_X2_there now village) (nI k19)))]
        refine vv_if_eq hC 94 dX8_safe_73 (by decide) (fun c3 => ?_) (fun c3 => ?_)
        · have c3 : ¬ (f_X8_has (f_X2_there now village) (nI k19) = true) := bI_f c3
          have hz := hJ2
          try simp only [if_neg c1, if_neg c3] at hz
          first | exact hz | (simp only [if_neg c1, if_neg c3]; exact hz)
        · have c3 : f_X8_has (f_X2_there now village) (nI k19) = true := bI_t c3
          refine vv_iload_n hC 3 dX8_safe_76 rfl rfl ?_
          refine vv_aload_n hC 0 dX8_safe_77 rfl rfl ?_
          refine vv_get (v := .ref vi) hC fl_X8_19 dX8_safe_78 h_who rfl ?_
          refine vv_getN (v := .long (gVi_homes village)) hC fl_X8_137 dX8_safe_81 h_village rfl ?_
          refine vv_iload hC 4 dX8_safe_84 rfl ?_
          refine vv_callS hC dX8_safe_86 md_X8_cell lk_m_X8_114 lk_t_X8_cell (As := [.long (gVi_homes village), .int (nI k19)]) (rest := [.int l3_19]) (c_X8_cell g w0 (gVi_homes village) (nI k19)) rfl rfl (Nat.le_of_ble_eq_true rfl) ⟨by decide, by decide, by decide, by decide⟩ (fun r w9 hq => ?_)
          obtain ⟨rfl, rfl⟩ := hq
          show V g X 5 w0 0 0 89 [(0, .ref (A 0)), (1, .int (f_X2_there now village)), (2, .int l2_19), (3, .int l3_19), (4, .int (nI k19))] [.int (f_X8_cell (gVi_homes village) (nI k19)), .int l3_19]
          refine vv_callS hC dX8_safe_89 md_X8_bit lk_m_X8_184 lk_t_X8_bit (As := [.int (f_X8_cell (gVi_homes village) (nI k19))]) (rest := [.int l3_19]) (c_X8_bit g w0 (f_X8_cell (gVi_homes village) (nI k19))) rfl rfl (Nat.le_of_ble_eq_true rfl) ⟨by decide, by decide, by decide, by decide⟩ (fun r w9 hq => ?_)
          obtain ⟨rfl, rfl⟩ := hq
          show V g X 5 w0 0 0 92 [(0, .ref (A 0)), (1, .int (f_X2_there now village)), (2, .int l2_19), (3, .int l3_19), (4, .int (nI k19))] [.int (f_X8_bit (f_X8_cell (gVi_homes village) (nI k19))), .int l3_19]
          refine vv_ior hC dX8_safe_92 ?_
          refine vv_istore_n (lv2 := [(3, .int (l3_19 ||| f_X8_bit (f_X8_cell (gVi_homes village) (nI k19)))), (0, .ref (A 0)), (1, .int (f_X2_there now village)), (2, .int l2_19), (4, .int (nI k19))]) hC dX8_safe_93 rfl (by decide) rfl ?_
          refine vv_lv [1, 2, 3, 0, 4] rfl ?_
          have hz := hJ2
          try simp only [if_neg c1, if_pos c3] at hz
          first | exact hz | (simp only [if_neg c1, if_pos c3]; exact hz)
      · have c1 : f_X8_has (f_X2_there now village &&& gN_wolves now) (nI k19) = true := bI_t c1
        refine vv_iload_n hC 2 dX8_safe_48 rfl rfl ?_
        refine vv_aload_n hC 0 dX8_safe_49 rfl rfl ?_
        refine vv_get (v := .ref (A 3)) hC fl_X8_26 dX8_safe_50 h_who rfl ?_
        refine vv_aload_n hC 0 dX8_safe_53 rfl rfl ?_
        refine vv_get (v := .ref vi) hC fl_X8_19 dX8_safe_54 h_who rfl ?_
        refine vv_iload hC 4 dX8_safe_57 rfl ?_
        refine vv_callV hC dX8_safe_59 md_X2_reach lk_m_X8_268 lk_i_X2_reach lk_s_X2_reach h_now rfl (As := [.ref vi, .int (nI k19)]) (rest := [.int l2_19]) (c_X2_reach g w0 (A 3) vi now village (nI k19) h_now h_village) rfl rfl (Nat.le_of_ble_eq_true rfl) ⟨by decide, by decide, by decide, by decide⟩ (fun r w9 hq => ?_)
        obtain ⟨rfl, rfl⟩ := hq
        show V g X 5 w0 0 0 62 [(0, .ref (A 0)), (1, .int (f_X2_there now village)), (2, .int l2_19), (3, .int l3_19), (4, .int (nI k19))] [.int (f_X2_reach now village (nI k19)), .int l2_19]
        refine vv_ior hC dX8_safe_62 ?_
        refine vv_istore_n (lv2 := [(2, .int (l2_19 ||| f_X2_reach now village (nI k19))), (0, .ref (A 0)), (1, .int (f_X2_there now village)), (3, .int l3_19), (4, .int (nI k19))]) hC dX8_safe_63 rfl (by decide) rfl ?_
        refine vv_goto hC 94 dX8_safe_64 (by decide) ?_
        refine vv_lv [1, 2, 0, 3, 4] rfl ?_
        have hz := hJ2
        try simp only [if_pos c1] at hz
        first | exact hz | (simp only [if_pos c1]; exact hz)
  refine vv_lv [4, 3, 2, 1, 0] rfl ?_
  refine hL4 (gVi_people village) 0 0 0 (f_X8_safe_L19 now village (gVi_people village) 0 0 0) (by omega) rfl ?_
  refine vv_iload_n hC 2 dX8_safe_100 rfl rfl ?_
  refine vv_iload_n hC 3 dX8_safe_101 rfl rfl ?_
  refine vv_iand hC dX8_safe_102 ?_
  have hf : (f_X8_safe now village) = ((f_X8_safe_L19 now village (gVi_people village) 0 0 0).1 &&& (f_X8_safe_L19 now village (gVi_people village) 0 0 0).2) := by first | (simp only [f_X8_safe]; done) | rfl | (simp only [f_X8_safe]; rfl)
  refine vv_iret hC hR rfl dX8_safe_103 (by omega) (by omega) ?_
  rw [hf]
  exact ⟨rfl, rfl⟩
