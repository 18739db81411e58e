def f_X8_visit (village : TVi) (now : TN) (acts_start : Nat) (acts_count : Nat) (el : TN) (p1 : Int32) (p2 : Int32) : Int32 × TN × Nat × Nat × TN := (if f_X8_noPerson village p1 = true then ((-1), now, acts_start, acts_count, el) else (if f_X8_noHouse village p2 = true then ((-1), now, acts_start, acts_count, el) else (if f_X8_has (f_X2_goals now village p1) p2 = true then ((f_X2_walk now village p1 p2).1, (f_X2_walk now village p1 p2).2, (f_X0_add acts_start acts_count now el).1, (f_X0_add acts_start acts_count now el).2.1, (f_X0_add acts_start acts_count now el).2.2) else ((-3), now, acts_start, acts_count, el))))
set_option maxHeartbeats 4000000 in
set_option maxRecDepth 100000 in
theorem c_X8_visit (g : GT) (w0 : Wd) (A : Nat → Nat) (hA : ∀ i j, i < 60 → j < 60 → A i = A j → i = j) (vi : Nat) (a_el : Nat) (who_keptSlots : Int32) (who_seed : Int64) (village : TVi) (now : TN) (acts_start : Nat) (acts_count : Nat) (before : Nat → Option Nat) (el : TN) (p1 : Int32) (p2 : Int32) (hvh : gVi_houses village ≤ 4) (hvp : gVi_people village ≤ 6) (hst : acts_start < 16) (hct : acts_count ≤ 16) (hel : before (actIx acts_start acts_count) = some a_el) (h_who : w0 (A 0) = some (.inr (8, cWh A vi (who_keptSlots, who_seed)))) (h_village : w0 vi = some (.inr (7, cVi village))) (h_now : w0 (A 3) = some (.inr (2, cN now))) (h_acts : w0 (A 5) = some (.inr (0, cAc (A 6) (acts_start, acts_count)))) (h_before : w0 (A 6) = some (.inl (g.2.2.1 4, 16, .inr (.inr (.inr (.inr before)))))) (h_el : w0 a_el = some (.inr (2, cN el))) (ne_el_now : ¬ a_el = A 3) : CT g yX8_visit cX8_visit 3 (some .int) 4 93 0 0 w0 [.ref (A 0), .int p1, .int p2] (fun r w2 => r = some (.int ((f_X8_visit village now acts_start acts_count el p1 p2).1)) ∧ w2 (A 3) = some (.inr (2, cN ((f_X8_visit village now acts_start acts_count el p1 p2).2.1))) ∧ w2 (A 5) = some (.inr (0, cAc (A 6) ((f_X8_visit village now acts_start acts_count el p1 p2).2.2.1, (f_X8_visit village now acts_start acts_count el p1 p2).2.2.2.1))) ∧ w2 a_el = some (.inr (2, cN ((f_X8_visit village now acts_start acts_count el p1 p2).2.2.2.2))) ∧ wE (fun q => q = (A 3) ∨ q = (A 5) ∨ q = a_el) w0 w2) := by
  refine CT.of (own := RX8) (by decide +kernel) rfl (Nat.le_of_ble_eq_true rfl) (fun X hC hR hI => ?_)
  show V g X 3 w0 0 0 0 [(0, .ref (A 0)), (1, .int p1), (2, .int p2)] []
  have hE : wE (fun q => q = (A 3) ∨ q = (A 5) ∨ q = a_el) w0 w0 := wE.refl
  refine vv_aload_n hC 0 dX8_visit_0 rfl rfl ?_
  refine vv_iload_n hC 1 dX8_visit_1 rfl rfl ?_
  refine vv_callV hC dX8_visit_2 md_X8_noPerson lk_m_X8_134 lk_i_X8_noPerson lk_s_X8_noPerson h_who rfl (As := [.int p1]) (rest := []) (c_X8_noPerson g w0 A hA vi who_keptSlots who_seed village p1 h_who h_village) rfl rfl (Nat.le_of_ble_eq_true rfl) ⟨by decide, by decide, by decide, by decide⟩ (fun r w9 hq => ?_)
  obtain ⟨rfl, rfl⟩ := hq
  show V g X 3 w0 0 0 5 [(0, .ref (A 0)), (1, .int p1), (2, .int p2)] [.int (bI (f_X8_noPerson village p1))]
  refine vv_if_ne hC 16 dX8_visit_5 (by decide) (fun c1 => ?_) (fun c1 => ?_)
  · have c1 : f_X8_noPerson village p1 = true := bI_t c1
    refine vv_iconst (v := (-1)) hC dX8_visit_16 (by decide) ?_
    have hf : (f_X8_visit village now acts_start acts_count el p1 p2) = ((-1), now, acts_start, acts_count, el) := by first | (simp only [f_X8_visit, if_pos c1]; done) | rfl | (simp only [f_X8_visit, if_pos c1]; rfl)
    refine vv_iret hC hR rfl dX8_visit_17 (by omega) (by omega) ?_
    rw [hf]
    try dsimp only
    exact ⟨rfl, h_now, h_acts, h_el, hE⟩
  · have c1 : ¬ (f_X8_noPerson village p1 = true) := bI_f c1
    refine vv_aload_n hC 0 dX8_visit_8 rfl rfl ?_
    refine vv_iload_n hC 2 dX8_visit_9 rfl rfl ?_
    refine vv_callV hC dX8_visit_10 md_X8_noHouse lk_m_X8_107 lk_i_X8_noHouse lk_s_X8_noHouse h_who rfl (As := [.int p2]) (rest := []) (c_X8_noHouse g w0 A hA vi who_keptSlots who_seed village p2 h_who h_village) rfl rfl (Nat.le_of_ble_eq_true rfl) ⟨by decide, by decide, by decide, by decide⟩ (fun r w9 hq => ?_)
    obtain ⟨rfl, rfl⟩ := hq
    show V g X 3 w0 0 0 13 [(0, .ref (A 0)), (1, .int p1), (2, .int p2)] [.int (bI (f_X8_noHouse village p2))]
    refine vv_if_eq hC 18 dX8_visit_13 (by decide) (fun c2 => ?_) (fun c2 => ?_)
    · have c2 : ¬ (f_X8_noHouse village p2 = true) := bI_f c2
      refine vv_aload_n hC 0 dX8_visit_18 rfl rfl ?_
      refine vv_get (v := .ref (A 3)) hC fl_X8_26 dX8_visit_19 h_who rfl ?_
      refine vv_aload_n hC 0 dX8_visit_22 rfl rfl ?_
      refine vv_get (v := .ref vi) hC fl_X8_19 dX8_visit_23 h_who rfl ?_
      refine vv_iload_n hC 1 dX8_visit_26 rfl rfl ?_
      refine vv_callV hC dX8_visit_27 md_X2_goals lk_m_X8_162 lk_i_X2_goals lk_s_X2_goals h_now rfl (As := [.ref vi, .int p1]) (rest := []) (c_X2_goals g w0 (A 3) vi now village p1 h_now h_village) rfl rfl (Nat.le_of_ble_eq_true rfl) ⟨by decide, by decide, by decide, by decide⟩ (fun r w9 hq => ?_)
      obtain ⟨rfl, rfl⟩ := hq
      show V g X 3 w0 0 0 30 [(0, .ref (A 0)), (1, .int p1), (2, .int p2)] [.int (f_X2_goals now village p1)]
      refine vv_iload_n hC 2 dX8_visit_30 rfl rfl ?_
      refine vv_callS hC dX8_visit_31 md_X8_has lk_m_X8_166 lk_t_X8_has (As := [.int (f_X2_goals now village p1), .int p2]) (rest := []) (c_X8_has g w0 (f_X2_goals now village p1) p2) rfl rfl (Nat.le_of_ble_eq_true rfl) ⟨by decide, by decide, by decide, by decide⟩ (fun r w9 hq => ?_)
      obtain ⟨rfl, rfl⟩ := hq
      show V g X 3 w0 0 0 34 [(0, .ref (A 0)), (1, .int p1), (2, .int p2)] [.int (bI (f_X8_has (f_X2_goals now village p1) p2))]
      refine vv_if_ne hC 40 dX8_visit_34 (by decide) (fun c3 => ?_) (fun c3 => ?_)
      · have c3 : f_X8_has (f_X2_goals now village p1) p2 = true := bI_t c3
        refine vv_aload_n hC 0 dX8_visit_40 rfl rfl ?_
        refine vv_get (v := .ref (A 5)) hC fl_X8_36 dX8_visit_41 h_who rfl ?_
        refine vv_aload_n hC 0 dX8_visit_44 rfl rfl ?_
        refine vv_get (v := .ref (A 3)) hC fl_X8_26 dX8_visit_45 h_who rfl ?_
        refine vv_callV hC dX8_visit_48 md_X0_add lk_m_X8_174 lk_i_X0_add lk_s_X0_add h_acts rfl (As := [.ref (A 3)]) (rest := []) (c_X0_add g w0 (A 5) (A 6) (A 3) a_el acts_start acts_count now before el (by omega) (by omega) (hel) h_acts h_now h_before h_el ne_el_now) rfl rfl (Nat.le_of_ble_eq_true rfl) ⟨by decide, by decide, by decide, by decide⟩ (fun r w9 hq => ?_)
        obtain ⟨rfl, t1, t2, hs⟩ := hq
        obtain ⟨w4, rfl⟩ : ∃ z, z = w9 := ⟨_, rfl⟩
        have h_who := hs _ _ (fun z => z.elim (fw_oo h_who h_acts (by decide)) (fw_oo h_who h_el (by decide))) h_who
        have h_village := hs _ _ (fun z => z.elim (fw_oo h_village h_acts (by decide)) (fw_oo h_village h_el (by decide))) h_village
        have h_now := hs _ _ (fun z => z.elim (fw_oo h_now h_acts (by decide)) (fun e => ne_el_now e.symm)) h_now
        have h_before := hs _ _ (fun z => z.elim (fw_ao h_before h_acts) (fw_ao h_before h_el)) h_before
        have h_acts := t1
        have h_el := t2
        have hE := hE.trans (hs.mono (fun _ z => z.elim (fun z => (Or.inr (Or.inl z))) (fun z => (Or.inr (Or.inr z)))))
        show V g X 3 w4 0 0 51 [(0, .ref (A 0)), (1, .int p1), (2, .int p2)] []
        refine vv_aload_n hC 0 dX8_visit_51 rfl rfl ?_
        refine vv_get (v := .ref (A 3)) hC fl_X8_26 dX8_visit_52 h_who rfl ?_
        refine vv_aload_n hC 0 dX8_visit_55 rfl rfl ?_
        refine vv_get (v := .ref vi) hC fl_X8_19 dX8_visit_56 h_who rfl ?_
        refine vv_iload_n hC 1 dX8_visit_59 rfl rfl ?_
        refine vv_iload_n hC 2 dX8_visit_60 rfl rfl ?_
        refine vv_callV hC dX8_visit_61 md_X2_walk lk_m_X8_178 lk_i_X2_walk lk_s_X2_walk h_now rfl (As := [.ref vi, .int p1, .int p2]) (rest := []) (c_X2_walk g w4 (A 3) vi now village p1 p2 (by omega) (by omega) h_now h_village) rfl rfl (Nat.le_of_ble_eq_true rfl) ⟨by decide, by decide, by decide, by decide⟩ (fun r w9 hq => ?_)
        obtain ⟨rfl, t1, hs⟩ := hq
        obtain ⟨w5, rfl⟩ : ∃ z, z = w9 := ⟨_, rfl⟩
        have h_who := hs _ _ (fw_oo h_who h_now (by decide)) h_who
        have h_village := hs _ _ (fw_oo h_village h_now (by decide)) h_village
        have h_acts := hs _ _ (fw_oo h_acts h_now (by decide)) h_acts
        have h_before := hs _ _ (fw_ao h_before h_now) h_before
        have h_el := hs _ _ ne_el_now h_el
        have h_now := t1
        have hE := hE.trans (hs.mono (fun _ z => (Or.inl z)))
        show V g X 3 w5 0 0 64 [(0, .ref (A 0)), (1, .int p1), (2, .int p2)] [.int ((f_X2_walk now village p1 p2).1)]
        have hf : (f_X8_visit village now acts_start acts_count el p1 p2) = ((f_X2_walk now village p1 p2).1, (f_X2_walk now village p1 p2).2, (f_X0_add acts_start acts_count now el).1, (f_X0_add acts_start acts_count now el).2.1, (f_X0_add acts_start acts_count now el).2.2) := by first | (simp only [f_X8_visit, if_neg c1, if_neg c2, if_pos c3]; done) | rfl | (simp only [f_X8_visit, if_neg c1, if_neg c2, if_pos c3]; rfl)
        refine vv_iret hC hR rfl dX8_visit_64 (by omega) (by omega) ?_
        rw [hf]
        try dsimp only
        exact ⟨rfl, h_now, h_acts, h_el, hE⟩
      · have c3 : ¬ (f_X8_has (f_X2_goals now village p1) p2 = true) := bI_f c3
        refine vv_bipush (v := (-3)) hC dX8_visit_37 (by decide) ?_
        have hf : (f_X8_visit village now acts_start acts_count el p1 p2) = ((-3), now, acts_start, acts_count, el) := by first | (simp only [f_X8_visit, if_neg c1, if_neg c2, if_neg c3]; done) | rfl | (simp only [f_X8_visit, if_neg c1, if_neg c2, if_neg c3]; rfl)
        refine vv_iret hC hR rfl dX8_visit_39 (by omega) (by omega) ?_
        rw [hf]
        try dsimp only
        exact ⟨rfl, h_now, h_acts, h_el, hE⟩
    · have c2 : f_X8_noHouse village p2 = true := bI_t c2
      refine vv_iconst (v := (-1)) hC dX8_visit_16 (by decide) ?_
      have hf : (f_X8_visit village now acts_start acts_count el p1 p2) = ((-1), now, acts_start, acts_count, el) := by first | (simp only [f_X8_visit, if_neg c1, if_pos c2]; done) | rfl | (simp only [f_X8_visit, if_neg c1, if_pos c2]; rfl)
      refine vv_iret hC hR rfl dX8_visit_17 (by omega) (by omega) ?_
      rw [hf]
      try dsimp only
      exact ⟨rfl, h_now, h_acts, h_el, hE⟩
def f_X8_dawn (acts_start : Nat) (acts_count : Nat) (now : TN) (el : TN) : Int32 × Nat × Nat × TN × TN := ((f_X2_nextNight now).1, (f_X0_add acts_start acts_count now el).1, (f_X0_add acts_start acts_count now el).2.1, (f_X2_nextNight now).2, (f_X0_add acts_start acts_count now el).2.2)
set_option maxHeartbeats 4000000 in
set_option maxRecDepth 100000 in
theorem c_X8_dawn (g : GT) (w0 : Wd) (A : Nat → Nat) (hA : ∀ i j, i < 60 → j < 60 → A i = A j → i = j) (vi : Nat) (a_el : Nat) (who_keptSlots : Int32) (who_seed : Int64) (acts_start : Nat) (acts_count : Nat) (now : TN) (before : Nat → Option Nat) (el : TN) (hst : acts_start < 16) (hct : acts_count ≤ 16) (hel : before (actIx acts_start acts_count) = some a_el) (h_who : w0 (A 0) = some (.inr (8, cWh A vi (who_keptSlots, who_seed)))) (h_acts : w0 (A 5) = some (.inr (0, cAc (A 6) (acts_start, acts_count)))) (h_now : w0 (A 3) = some (.inr (2, cN now))) (h_before : w0 (A 6) = some (.inl (g.2.2.1 4, 16, .inr (.inr (.inr (.inr before)))))) (h_el : w0 a_el = some (.inr (2, cN el))) (ne_el_now : ¬ a_el = A 3) : CT g yX8_dawn cX8_dawn 1 (some .int) 2 43 0 0 w0 [.ref (A 0)] (fun r w2 => r = some (.int ((f_X8_dawn acts_start acts_count now el).1)) ∧ w2 (A 5) = some (.inr (0, cAc (A 6) ((f_X8_dawn acts_start acts_count now el).2.1, (f_X8_dawn acts_start acts_count now el).2.2.1))) ∧ w2 (A 3) = some (.inr (2, cN ((f_X8_dawn acts_start acts_count now el).2.2.2.1))) ∧ w2 a_el = some (.inr (2, cN ((f_X8_dawn acts_start acts_count now el).2.2.2.2))) ∧ wE (fun q => q = (A 5) ∨ q = (A 3) ∨ q = a_el) w0 w2) := by
  refine CT.of (own := RX8) (by decide +kernel) rfl (Nat.le_of_ble_eq_true rfl) (fun X hC hR hI => ?_)
  show V g X 1 w0 0 0 0 [(0, .ref (A 0))] []
  have hE : wE (fun q => q = (A 5) ∨ q = (A 3) ∨ q = a_el) w0 w0 := wE.refl
  refine vv_aload_n hC 0 dX8_dawn_0 rfl rfl ?_
  refine vv_get (v := .ref (A 5)) hC fl_X8_36 dX8_dawn_1 h_who rfl ?_
  refine vv_aload_n hC 0 dX8_dawn_4 rfl rfl ?_
  refine vv_get (v := .ref (A 3)) hC fl_X8_26 dX8_dawn_5 h_who rfl ?_
  refine vv_callV hC dX8_dawn_8 md_X0_add lk_m_X8_174 lk_i_X0_add lk_s_X0_add h_acts rfl (As := [.ref (A 3)]) (rest := []) (c_X0_add g w0 (A 5) (A 6) (A 3) a_el acts_start acts_count now before el (by omega) (by omega) (hel) h_acts h_now h_before h_el ne_el_now) rfl rfl (Nat.le_of_ble_eq_true rfl) ⟨by decide, by decide, by decide, by decide⟩ (fun r w9 hq => ?_)
  obtain ⟨rfl, t1, t2, hs⟩ := hq
  obtain ⟨w1, rfl⟩ : ∃ z, z = w9 := ⟨_, rfl⟩
  have h_who := hs _ _ (fun z => z.elim (fw_oo h_who h_acts (by decide)) (fw_oo h_who h_el (by decide))) h_who
  have h_now := hs _ _ (fun z => z.elim (fw_oo h_now h_acts (by decide)) (fun e => ne_el_now e.symm)) h_now
  have h_before := hs _ _ (fun z => z.elim (fw_ao h_before h_acts) (fw_ao h_before h_el)) h_before
  have h_acts := t1
  have h_el := t2
  have hE := hE.trans (hs.mono (fun _ z => z.elim (fun z => (Or.inl z)) (fun z => (Or.inr (Or.inr z)))))
  show V g X 1 w1 0 0 11 [(0, .ref (A 0))] []
  refine vv_aload_n hC 0 dX8_dawn_11 rfl rfl ?_
  refine vv_get (v := .ref (A 3)) hC fl_X8_26 dX8_dawn_12 h_who rfl ?_
  refine vv_callV hC dX8_dawn_15 md_X2_nextNight lk_m_X8_181 lk_i_X2_nextNight lk_s_X2_nextNight h_now rfl (As := []) (rest := []) (c_X2_nextNight g w1 (A 3) now h_now) rfl rfl (Nat.le_of_ble_eq_true rfl) ⟨by decide, by decide, by decide, by decide⟩ (fun r w9 hq => ?_)
  obtain ⟨rfl, t1, hs⟩ := hq
  obtain ⟨w2, rfl⟩ : ∃ z, z = w9 := ⟨_, rfl⟩
  have h_who := hs _ _ (fw_oo h_who h_now (by decide)) h_who
  have h_acts := hs _ _ (fw_oo h_acts h_now (by decide)) h_acts
  have h_before := hs _ _ (fw_ao h_before h_now) h_before
  have h_el := hs _ _ ne_el_now h_el
  have h_now := t1
  have hE := hE.trans (hs.mono (fun _ z => (Or.inr (Or.inl z))))
  show V g X 1 w2 0 0 18 [(0, .ref (A 0))] [.int ((f_X2_nextNight now).1)]
  have hf : (f_X8_dawn acts_start acts_count now el) = ((f_X2_nextNight now).1, (f_X0_add acts_start acts_count now el).1, (f_X0_add acts_start acts_count now el).2.1, (f_X2_nextNight now).2, (f_X0_add acts_start acts_count now el).2.2) := by first | (simp only [f_X8_dawn]; done) | rfl | (simp only [f_X8_dawn]; rfl)
  refine vv_iret hC hR rfl dX8_dawn_18 (by omega) (by omega) ?_
  rw [hf]
  try dsimp only
  exact ⟨rfl, h_acts, h_now, h_el, hE⟩
def f_X8_hang (village : TVi) (now : TN) (acts_start : Nat) (acts_count : Nat) (el : TN) (p1 : Int32) : Int32 × TN × Nat × Nat × TN := (if f_X8_noPerson village p1 = true then ((-1), now, acts_start, acts_count, el) else (if f_X8_has (gN_gone now) p1 = true then ((-3), now, acts_start, acts_count, el) else (f_X8_bitOf (gN_wolves now) p1, sN_gone now (gN_gone now ||| f_X8_bit p1), (f_X0_add acts_start acts_count now el).1, (f_X0_add acts_start acts_count now el).2.1, (f_X0_add acts_start acts_count now el).2.2)))
set_option maxHeartbeats 4000000 in
set_option maxRecDepth 100000 in
theorem c_X8_hang (g : GT) (w0 : Wd) (A : Nat → Nat) (hA : ∀ i j, i < 60 → j < 60 → A i = A j → i = j) (vi : Nat) (a_el : Nat) (who_keptSlots : Int32) (who_seed : Int64) (village : TVi) (now : TN) (acts_start : Nat) (acts_count : Nat) (before : Nat → Option Nat) (el : TN) (p1 : Int32) (hst : acts_start < 16) (hct : acts_count ≤ 16) (hel : before (actIx acts_start acts_count) = some a_el) (h_who : w0 (A 0) = some (.inr (8, cWh A vi (who_keptSlots, who_seed)))) (h_village : w0 vi = some (.inr (7, cVi village))) (h_now : w0 (A 3) = some (.inr (2, cN now))) (h_acts : w0 (A 5) = some (.inr (0, cAc (A 6) (acts_start, acts_count)))) (h_before : w0 (A 6) = some (.inl (g.2.2.1 4, 16, .inr (.inr (.inr (.inr before)))))) (h_el : w0 a_el = some (.inr (2, cN el))) (ne_el_now : ¬ a_el = A 3) : CT g yX8_hang cX8_hang 2 (some .int) 2 43 0 0 w0 [.ref (A 0), .int p1] (fun r w2 => r = some (.int ((f_X8_hang village now acts_start acts_count el p1).1)) ∧ w2 (A 3) = some (.inr (2, cN ((f_X8_hang village now acts_start acts_count el p1).2.1))) ∧ w2 (A 5) = some (.inr (0, cAc (A 6) ((f_X8_hang village now acts_start acts_count el p1).2.2.1, (f_X8_hang village now acts_start acts_count el p1).2.2.2.1))) ∧ w2 a_el = some (.inr (2, cN ((f_X8_hang village now acts_start acts_count el p1).2.2.2.2))) ∧ wE (fun q => q = (A 3) ∨ q = (A 5) ∨ q = a_el) w0 w2) := by
  refine CT.of (own := RX8) (by decide +kernel) rfl (Nat.le_of_ble_eq_true rfl) (fun X hC hR hI => ?_)
  show V g X 2 w0 0 0 0 [(0, .ref (A 0)), (1, .int p1)] []
  have hE : wE (fun q => q = (A 3) ∨ q = (A 5) ∨ q = a_el) w0 w0 := wE.refl
  refine vv_aload_n hC 0 dX8_hang_0 rfl rfl ?_
  refine vv_iload_n hC 1 dX8_hang_1 rfl rfl ?_
  refine vv_callV hC dX8_hang_2 md_X8_noPerson lk_m_X8_134 lk_i_X8_noPerson lk_s_X8_noPerson h_who rfl (As := [.int p1]) (rest := []) (c_X8_noPerson g w0 A hA vi who_keptSlots who_seed village p1 h_who h_village) rfl rfl (Nat.le_of_ble_eq_true rfl) ⟨by decide, by decide, by decide, by decide⟩ (fun r w9 hq => ?_)
  obtain ⟨rfl, rfl⟩ := hq
  show V g X 2 w0 0 0 5 [(0, .ref (A 0)), (1, .int p1)] [.int (bI (f_X8_noPerson village p1))]
  refine vv_if_eq hC 10 dX8_hang_5 (by decide) (fun c1 => ?_) (fun c1 => ?_)
  · have c1 : ¬ (f_X8_noPerson village p1 = true) := bI_f c1
    refine vv_aload_n hC 0 dX8_hang_10 rfl rfl ?_
    refine vv_get (v := .ref (A 3)) hC fl_X8_26 dX8_hang_11 h_who rfl ?_
    refine vv_getN (v := .int (gN_gone now)) hC fl_X8_150 dX8_hang_14 h_now rfl ?_
    refine vv_iload_n hC 1 dX8_hang_17 rfl rfl ?_
    refine vv_callS hC dX8_hang_18 md_X8_has lk_m_X8_166 lk_t_X8_has (As := [.int (gN_gone now), .int p1]) (rest := []) (c_X8_has g w0 (gN_gone now) p1) rfl rfl (Nat.le_of_ble_eq_true rfl) ⟨by decide, by decide, by decide, by decide⟩ (fun r w9 hq => ?_)
    obtain ⟨rfl, rfl⟩ := hq
    show V g X 2 w0 0 0 21 [(0, .ref (A 0)), (1, .int p1)] [.int (bI (f_X8_has (gN_gone now) p1))]
    refine vv_if_eq hC 27 dX8_hang_21 (by decide) (fun c2 => ?_) (fun c2 => ?_)
    · have c2 : ¬ (f_X8_has (gN_gone now) p1 = true) := bI_f c2
      refine vv_aload_n hC 0 dX8_hang_27 rfl rfl ?_
      refine vv_get (v := .ref (A 5)) hC fl_X8_36 dX8_hang_28 h_who rfl ?_
      refine vv_aload_n hC 0 dX8_hang_31 rfl rfl ?_
      refine vv_get (v := .ref (A 3)) hC fl_X8_26 dX8_hang_32 h_who rfl ?_
      refine vv_callV hC dX8_hang_35 md_X0_add lk_m_X8_174 lk_i_X0_add lk_s_X0_add h_acts rfl (As := [.ref (A 3)]) (rest := []) (c_X0_add g w0 (A 5) (A 6) (A 3) a_el acts_start acts_count now before el (by omega) (by omega) (hel) h_acts h_now h_before h_el ne_el_now) rfl rfl (Nat.le_of_ble_eq_true rfl) ⟨by decide, by decide, by decide, by decide⟩ (fun r w9 hq => ?_)
      obtain ⟨rfl, t1, t2, hs⟩ := hq
      obtain ⟨w3, rfl⟩ : ∃ z, z = w9 := ⟨_, rfl⟩
      have h_who := hs _ _ (fun z => z.elim (fw_oo h_who h_acts (by decide)) (fw_oo h_who h_el (by decide))) h_who
      have h_village := hs _ _ (fun z => z.elim (fw_oo h_village h_acts (by decide)) (fw_oo h_village h_el (by decide))) h_village
      have h_now := hs _ _ (fun z => z.elim (fw_oo h_now h_acts (by decide)) (fun e => ne_el_now e.symm)) h_now
      have h_before := hs _ _ (fun z => z.elim (fw_ao h_before h_acts) (fw_ao h_before h_el)) h_before
      have h_acts := t1
      have h_el := t2
      have hE := hE.trans (hs.mono (fun _ z => z.elim (fun z => (Or.inr (Or.inl z))) (fun z => (Or.inr (Or.inr z)))))
      show V g X 2 w3 0 0 38 [(0, .ref (A 0)), (1, .int p1)] []
      refine vv_aload_n hC 0 dX8_hang_38 rfl rfl ?_
      refine vv_get (v := .ref (A 3)) hC fl_X8_26 dX8_hang_39 h_who rfl ?_
      refine vv_dup hC dX8_hang_42 rfl ?_
      refine vv_getN (v := .int (gN_gone now)) hC fl_X8_150 dX8_hang_43 h_now rfl ?_
      refine vv_iload_n hC 1 dX8_hang_46 rfl rfl ?_
      refine vv_callS hC dX8_hang_47 md_X8_bit lk_m_X8_184 lk_t_X8_bit (As := [.int p1]) (rest := [.int (gN_gone now), .ref (A 3)]) (c_X8_bit g w3 p1) rfl rfl (Nat.le_of_ble_eq_true rfl) ⟨by decide, by decide, by decide, by decide⟩ (fun r w9 hq => ?_)
      obtain ⟨rfl, rfl⟩ := hq
      show V g X 2 w3 0 0 50 [(0, .ref (A 0)), (1, .int p1)] [.int (f_X8_bit p1), .int (gN_gone now), .ref (A 3)]
      refine vv_ior hC dX8_hang_50 ?_
      refine vv_putN hC fp_X8_150 dX8_hang_51 h_now rfl rfl (Nat.le_of_ble_eq_true rfl) (fun w4 t1 hs => ?_)
      have t1 : w4 (A 3) = some (.inr (2, cN (sN_gone now (gN_gone now ||| f_X8_bit p1)))) := t1.trans (congrArg (fun z => some (Sum.inr (2, z))) (eN_gone _ _))
      have h_who := hs _ _ (fw_oo h_who h_now (by decide)) h_who
      have h_village := hs _ _ (fw_oo h_village h_now (by decide)) h_village
      have h_acts := hs _ _ (fw_oo h_acts h_now (by decide)) h_acts
      have h_before := hs _ _ (fw_ao h_before h_now) h_before
      have h_el := hs _ _ ne_el_now h_el
      have h_now := t1
      have hE := hE.trans (hs.mono (fun _ z => (Or.inl z)))
      refine vv_aload_n hC 0 dX8_hang_54 rfl rfl ?_
      refine vv_get (v := .ref (A 3)) hC fl_X8_26 dX8_hang_55 h_who rfl ?_
      refine vv_getN (v := .int (gN_wolves now)) hC fl_X8_140 dX8_hang_58 h_now rfl ?_
      refine vv_iload_n hC 1 dX8_hang_61 rfl rfl ?_
      refine vv_callS hC dX8_hang_62 md_X8_bitOf lk_m_X8_143 lk_t_X8_bitOf (As := [.int (gN_wolves now), .int p1]) (rest := []) (c_X8_bitOf g w4 (gN_wolves now) p1) rfl rfl (Nat.le_of_ble_eq_true rfl) ⟨by decide, by decide, by decide, by decide⟩ (fun r w9 hq => ?_)
      obtain ⟨rfl, rfl⟩ := hq
      show V g X 2 w4 0 0 65 [(0, .ref (A 0)), (1, .int p1)] [.int (f_X8_bitOf (gN_wolves now) p1)]
      have hf : (f_X8_hang village now acts_start acts_count el p1) = (f_X8_bitOf (gN_wolves now) p1, sN_gone now (gN_gone now ||| f_X8_bit p1), (f_X0_add acts_start acts_count now el).1, (f_X0_add acts_start acts_count now el).2.1, (f_X0_add acts_start acts_count now el).2.2) := by first | (simp only [f_X8_hang, if_neg c1, if_neg c2]; done) | rfl | (simp only [f_X8_hang, if_neg c1, if_neg c2]; rfl)
      refine vv_iret hC hR rfl dX8_hang_65 (by omega) (by omega) ?_
      rw [hf]
      try dsimp only
      exact ⟨rfl, h_now, h_acts, h_el, hE⟩
    · have c2 : f_X8_has (gN_gone now) p1 = true := bI_t c2
      refine vv_bipush (v := (-3)) hC dX8_hang_24 (by decide) ?_
      have hf : (f_X8_hang village now acts_start acts_count el p1) = ((-3), now, acts_start, acts_count, el) := by first | (simp only [f_X8_hang, if_neg c1, if_pos c2]; done) | rfl | (simp only [f_X8_hang, if_neg c1, if_pos c2]; rfl)
      refine vv_iret hC hR rfl dX8_hang_26 (by omega) (by omega) ?_
      rw [hf]
      try dsimp only
      exact ⟨rfl, h_now, h_acts, h_el, hE⟩
  · have c1 : f_X8_noPerson village p1 = true := bI_t c1
    refine vv_iconst (v := (-1)) hC dX8_hang_8 (by decide) ?_
    have hf : (f_X8_hang village now acts_start acts_count el p1) = ((-1), now, acts_start, acts_count, el) := by first | (simp only [f_X8_hang, if_pos c1]; done) | rfl | (simp only [f_X8_hang, if_pos c1]; rfl)
    refine vv_iret hC hR rfl dX8_hang_9 (by omega) (by omega) ?_
    rw [hf]
    try dsimp only
    exact ⟨rfl, h_now, h_acts, h_el, hE⟩
def f_X8_bolt (village : TVi) (now : TN) (acts_start : Nat) (acts_count : Nat) (el : TN) (p1 : Int32) (p2 : Int32) : Int32 × TN × Nat × Nat × TN := (if f_X8_noHouse village p1 = true then ((-1), now, acts_start, acts_count, el) else (if p2 < 0 then ((-2), now, acts_start, acts_count, el) else (if p2 ≤ 2 then (if f_X2_boltOf now p1 = p2 then ((-3), now, acts_start, acts_count, el) else (f_X2_boltOf now p1, (f_X2_setBolt now p1 p2), (f_X0_add acts_start acts_count now el).1, (f_X0_add acts_start acts_count now el).2.1, (f_X0_add acts_start acts_count now el).2.2)) else ((-2), now, acts_start, acts_count, el))))
set_option maxHeartbeats 4000000 in
set_option maxRecDepth 100000 in
theorem c_X8_bolt (g : GT) (w0 : Wd) (A : Nat → Nat) (hA : ∀ i j, i < 60 → j < 60 → A i = A j → i = j) (vi : Nat) (a_el : Nat) (who_keptSlots : Int32) (who_seed : Int64) (village : TVi) (now : TN) (acts_start : Nat) (acts_count : Nat) (before : Nat → Option Nat) (el : TN) (p1 : Int32) (p2 : Int32) (hst : acts_start < 16) (hct : acts_count ≤ 16) (hel : before (actIx acts_start acts_count) = some a_el) (h_who : w0 (A 0) = some (.inr (8, cWh A vi (who_keptSlots, who_seed)))) (h_village : w0 vi = some (.inr (7, cVi village))) (h_now : w0 (A 3) = some (.inr (2, cN now))) (h_acts : w0 (A 5) = some (.inr (0, cAc (A 6) (acts_start, acts_count)))) (h_before : w0 (A 6) = some (.inl (g.2.2.1 4, 16, .inr (.inr (.inr (.inr before)))))) (h_el : w0 a_el = some (.inr (2, cN el))) (ne_el_now : ¬ a_el = A 3) : CT g yX8_bolt cX8_bolt 4 (some .int) 2 43 0 0 w0 [.ref (A 0), .int p1, .int p2] (fun r w2 => r = some (.int ((f_X8_bolt village now acts_start acts_count el p1 p2).1)) ∧ w2 (A 3) = some (.inr (2, cN ((f_X8_bolt village now acts_start acts_count el p1 p2).2.1))) ∧ w2 (A 5) = some (.inr (0, cAc (A 6) ((f_X8_bolt village now acts_start acts_count el p1 p2).2.2.1, (f_X8_bolt village now acts_start acts_count el p1 p2).2.2.2.1))) ∧ w2 a_el = some (.inr (2, cN ((f_X8_bolt village now acts_start acts_count el p1 p2).2.2.2.2))) ∧ wE (fun q => q = (A 3) ∨ q = (A 5) ∨ q = a_el) w0 w2) := by
  refine CT.of (own := RX8) (by decide +kernel) rfl (Nat.le_of_ble_eq_true rfl) (fun X hC hR hI => ?_)
  show V g X 4 w0 0 0 0 [(0, .ref (A 0)), (1, .int p1), (2, .int p2)] []
  have hE : wE (fun q => q = (A 3) ∨ q = (A 5) ∨ q = a_el) w0 w0 := wE.refl
  refine vv_aload_n hC 0 dX8_bolt_0 rfl rfl ?_
  refine vv_iload_n hC 1 dX8_bolt_1 rfl rfl ?_
  refine vv_callV hC dX8_bolt_2 md_X8_noHouse lk_m_X8_107 lk_i_X8_noHouse lk_s_X8_noHouse h_who rfl (As := [.int p1]) (rest := []) (c_X8_noHouse g w0 A hA vi who_keptSlots who_seed village p1 h_who h_village) rfl rfl (Nat.le_of_ble_eq_true rfl) ⟨by decide, by decide, by decide, by decide⟩ (fun r w9 hq => ?_)
  obtain ⟨rfl, rfl⟩ := hq
  show V g X 4 w0 0 0 5 [(0, .ref (A 0)), (1, .int p1), (2, .int p2)] [.int (bI (f_X8_noHouse village p1))]
  refine vv_if_eq hC 10 dX8_bolt_5 (by decide) (fun c1 => ?_) (fun c1 => ?_)
  · have c1 : ¬ (f_X8_noHouse village p1 = true) := bI_f c1
    refine vv_iload_n hC 2 dX8_bolt_10 rfl rfl ?_
    refine vv_if_lt hC 19 dX8_bolt_11 (by decide) (fun c2 => ?_) (fun c2 => ?_)
    · have c2 : p2 < 0 := c2
      refine vv_bipush (v := (-2)) hC dX8_bolt_19 (by decide) ?_
      have hf : (f_X8_bolt village now acts_start acts_count el p1 p2) = ((-2), now, acts_start, acts_count, el) := by first | (simp only [f_X8_bolt, if_neg c1, if_pos c2]; done) | rfl | (simp only [f_X8_bolt, if_neg c1, if_pos c2]; rfl)
      refine vv_iret hC hR rfl dX8_bolt_21 (by omega) (by omega) ?_
      rw [hf]
      try dsimp only
      exact ⟨rfl, h_now, h_acts, h_el, hE⟩
    · have c2 : ¬ (p2 < 0) := c2
      refine vv_iload_n hC 2 dX8_bolt_14 rfl rfl ?_
      refine vv_iconst (v := 2) hC dX8_bolt_15 (by decide) ?_
      refine vv_icmp_le hC 22 dX8_bolt_16 (by decide) (fun c3 => ?_) (fun c3 => ?_)
      · have c3 : p2 ≤ 2 := c3
        refine vv_aload_n hC 0 dX8_bolt_22 rfl rfl ?_
        refine vv_get (v := .ref (A 3)) hC fl_X8_26 dX8_bolt_23 h_who rfl ?_
        refine vv_iload_n hC 1 dX8_bolt_26 rfl rfl ?_
        refine vv_callV hC dX8_bolt_27 md_X2_boltOf lk_m_X8_118 lk_i_X2_boltOf lk_s_X2_boltOf h_now rfl (As := [.int p1]) (rest := []) (c_X2_boltOf g w0 (A 3) now p1 h_now) rfl rfl (Nat.le_of_ble_eq_true rfl) ⟨by decide, by decide, by decide, by decide⟩ (fun r w9 hq => ?_)
        obtain ⟨rfl, rfl⟩ := hq
        show V g X 4 w0 0 0 30 [(0, .ref (A 0)), (1, .int p1), (2, .int p2)] [.int (f_X2_boltOf now p1)]
        refine vv_istore_n (lv2 := [(3, .int (f_X2_boltOf now p1)), (0, .ref (A 0)), (1, .int p1), (2, .int p2)]) hC dX8_bolt_30 rfl (by decide) rfl ?_
        refine vv_iload_n hC 0 dX8_bolt_31 rfl rfl ?_
        refine vv_iload_n hC 3 dX8_bolt_32 rfl rfl ?_
        refine vv_icmp_ne hC 39 dX8_bolt_33 (by decide) (fun c4 => ?_) (fun c4 => ?_)
        · have c4 : ¬ (f_X2_boltOf now p1 = p2) := c4
          refine vv_aload_n hC 1 dX8_bolt_39 rfl rfl ?_
          refine vv_get (v := .ref (A 5)) hC fl_X8_36 dX8_bolt_40 h_who rfl ?_
          refine vv_aload_n hC 1 dX8_bolt_43 rfl rfl ?_
          refine vv_get (v := .ref (A 3)) hC fl_X8_26 dX8_bolt_44 h_who rfl ?_
          refine vv_callV hC dX8_bolt_47 md_X0_add lk_m_X8_174 lk_i_X0_add lk_s_X0_add h_acts rfl (As := [.ref (A 3)]) (rest := []) (c_X0_add g w0 (A 5) (A 6) (A 3) a_el acts_start acts_count now before el (by omega) (by omega) (hel) h_acts h_now h_before h_el ne_el_now) rfl rfl (Nat.le_of_ble_eq_true rfl) ⟨by decide, by decide, by decide, by decide⟩ (fun r w9 hq => ?_)
          obtain ⟨rfl, t1, t2, hs⟩ := hq
          obtain ⟨w5, rfl⟩ : ∃ z, z = w9 := ⟨_, rfl⟩
          have h_who := hs _ _ (fun z => z.elim (fw_oo h_who h_acts (by decide)) (fw_oo h_who h_el (by decide))) h_who
          have h_village := hs _ _ (fun z => z.elim (fw_oo h_village h_acts (by decide)) (fw_oo h_village h_el (by decide))) h_village
          have h_now := hs _ _ (fun z => z.elim (fw_oo h_now h_acts (by decide)) (fun e => ne_el_now e.symm)) h_now
          have h_before := hs _ _ (fun z => z.elim (fw_ao h_before h_acts) (fw_ao h_before h_el)) h_before
          have h_acts := t1
          have h_el := t2
          have hE := hE.trans (hs.mono (fun _ z => z.elim (fun z => (Or.inr (Or.inl z))) (fun z => (Or.inr (Or.inr z)))))
          show V g X 4 w5 0 0 50 [(3, .int (f_X2_boltOf now p1)), (0, .ref (A 0)), (1, .int p1), (2, .int p2)] []
          refine vv_aload_n hC 1 dX8_bolt_50 rfl rfl ?_
          refine vv_get (v := .ref (A 3)) hC fl_X8_26 dX8_bolt_51 h_who rfl ?_
          refine vv_iload_n hC 2 dX8_bolt_54 rfl rfl ?_
          refine vv_iload_n hC 3 dX8_bolt_55 rfl rfl ?_
          refine vv_callV hC dX8_bolt_56 md_X2_setBolt lk_m_X8_187 lk_i_X2_setBolt lk_s_X2_setBolt h_now rfl (As := [.int p1, .int p2]) (rest := []) (c_X2_setBolt g w5 (A 3) now p1 p2 h_now) rfl rfl (Nat.le_of_ble_eq_true rfl) ⟨by decide, by decide, by decide, by decide⟩ (fun r w9 hq => ?_)
          obtain ⟨rfl, t1, hs⟩ := hq
          obtain ⟨w6, rfl⟩ : ∃ z, z = w9 := ⟨_, rfl⟩
          have h_who := hs _ _ (fw_oo h_who h_now (by decide)) h_who
          have h_village := hs _ _ (fw_oo h_village h_now (by decide)) h_village
          have h_acts := hs _ _ (fw_oo h_acts h_now (by decide)) h_acts
          have h_before := hs _ _ (fw_ao h_before h_now) h_before
          have h_el := hs _ _ ne_el_now h_el
          have h_now := t1
          have hE := hE.trans (hs.mono (fun _ z => (Or.inl z)))
          show V g X 4 w6 0 0 59 [(3, .int (f_X2_boltOf now p1)), (0, .ref (A 0)), (1, .int p1), (2, .int p2)] []
          refine vv_iload_n hC 0 dX8_bolt_59 rfl rfl ?_
          have hf : (f_X8_bolt village now acts_start acts_count el p1 p2) = (f_X2_boltOf now p1, (f_X2_setBolt now p1 p2), (f_X0_add acts_start acts_count now el).1, (f_X0_add acts_start acts_count now el).2.1, (f_X0_add acts_start acts_count now el).2.2) := by first | (simp only [f_X8_bolt, if_neg c1, if_neg c2, if_pos c3, if_neg c4]; done) | rfl | (simp only [f_X8_bolt, if_neg c1, if_neg c2, if_pos c3, if_neg c4]; rfl)
          refine vv_iret hC hR rfl dX8_bolt_60 (by omega) (by omega) ?_
          rw [hf]
          try dsimp only
          exact ⟨rfl, h_now, h_acts, h_el, hE⟩
        · have c4 : f_X2_boltOf now p1 = p2 := c4
          refine vv_bipush (v := (-3)) hC dX8_bolt_36 (by decide) ?_
          have hf : (f_X8_bolt village now acts_start acts_count el p1 p2) = ((-3), now, acts_start, acts_count, el) := by first | (simp only [f_X8_bolt, if_neg c1, if_neg c2, if_pos c3, if_pos c4]; done) | rfl | (simp only [f_X8_bolt, if_neg c1, if_neg c2, if_pos c3, if_pos c4]; rfl)
          refine vv_iret hC hR rfl dX8_bolt_38 (by omega) (by omega) ?_
          rw [hf]
          try dsimp only
          exact ⟨rfl, h_now, h_acts, h_el, hE⟩
      · have c3 : ¬ (p2 ≤ 2) := c3
        refine vv_bipush (v := (-2)) hC dX8_bolt_19 (by decide) ?_
        have hf : (f_X8_bolt village now acts_start acts_count el p1 p2) = ((-2), now, acts_start, acts_count, el) := by first | (simp only [f_X8_bolt, if_neg c1, if_neg c2, if_neg c3]; done) | rfl | (simp only [f_X8_bolt, if_neg c1, if_neg c2, if_neg c3]; rfl)
        refine vv_iret hC hR rfl dX8_bolt_21 (by omega) (by omega) ?_
        rw [hf]
        try dsimp only
        exact ⟨rfl, h_now, h_acts, h_el, hE⟩
  · have c1 : f_X8_noHouse village p1 = true := bI_t c1
    refine vv_iconst (v := (-1)) hC dX8_bolt_8 (by decide) ?_
    have hf : (f_X8_bolt village now acts_start acts_count el p1 p2) = ((-1), now, acts_start, acts_count, el) := by first | (simp only [f_X8_bolt, if_pos c1]; done) | rfl | (simp only [f_X8_bolt, if_pos c1]; rfl)
    refine vv_iret hC hR rfl dX8_bolt_9 (by omega) (by omega) ?_
    rw [hf]
    try dsimp only
    exact ⟨rfl, h_now, h_acts, h_el, hE⟩
def f_X8_undo (acts_count : Nat) (now : TN) (el : TN) : Int32 × Nat × TN := ((if (f_X0_takeBack acts_count now el).1 = true then nI ((f_X0_takeBack acts_count now el).2.1) else (-3 : Int32)), (f_X0_takeBack acts_count now el).2.1, (f_X0_takeBack acts_count now el).2.2)
set_option maxHeartbeats 4000000 in
set_option maxRecDepth 100000 in
theorem c_X8_undo (g : GT) (w0 : Wd) (A : Nat → Nat) (hA : ∀ i j, i < 60 → j < 60 → A i = A j → i = j) (vi : Nat) (a_el : Nat) (who_keptSlots : Int32) (who_seed : Int64) (acts_start : Nat) (acts_count : Nat) (now : TN) (before : Nat → Option Nat) (el : TN) (hst : acts_start < 16) (hct : acts_count ≤ 16) (hel : before ((acts_start + acts_count - 1) % 16) = some a_el) (h_who : w0 (A 0) = some (.inr (8, cWh A vi (who_keptSlots, who_seed)))) (h_acts : w0 (A 5) = some (.inr (0, cAc (A 6) (acts_start, acts_count)))) (h_now : w0 (A 3) = some (.inr (2, cN now))) (h_before : w0 (A 6) = some (.inl (g.2.2.1 4, 16, .inr (.inr (.inr (.inr before)))))) (h_el : w0 a_el = some (.inr (2, cN el))) (ne_el_now : ¬ a_el = A 3) : CT g yX8_undo cX8_undo 1 (some .int) 2 43 0 0 w0 [.ref (A 0)] (fun r w2 => r = some (.int ((f_X8_undo acts_count now el).1)) ∧ w2 (A 5) = some (.inr (0, cAc (A 6) (acts_start, (f_X8_undo acts_count now el).2.1))) ∧ w2 (A 3) = some (.inr (2, cN ((f_X8_undo acts_count now el).2.2))) ∧ wE (fun q => q = (A 5) ∨ q = (A 3)) w0 w2) := by
  refine CT.of (own := RX8) (by decide +kernel) rfl (Nat.le_of_ble_eq_true rfl) (fun X hC hR hI => ?_)
  show V g X 1 w0 0 0 0 [(0, .ref (A 0))] []
  have hE : wE (fun q => q = (A 5) ∨ q = (A 3)) w0 w0 := wE.refl
  refine vv_aload_n hC 0 dX8_undo_0 rfl rfl ?_
  refine vv_get (v := .ref (A 5)) hC fl_X8_36 dX8_undo_1 h_who rfl ?_
  refine vv_aload_n hC 0 dX8_undo_4 rfl rfl ?_
  refine vv_get (v := .ref (A 3)) hC fl_X8_26 dX8_undo_5 h_who rfl ?_
  refine vv_callV hC dX8_undo_8 md_X0_takeBack lk_m_X8_191 lk_i_X0_takeBack lk_s_X0_takeBack h_acts rfl (As := [.ref (A 3)]) (rest := []) (c_X0_takeBack g w0 (A 5) (A 6) (A 3) a_el acts_start acts_count now before el (by omega) (by omega) (hel) h_acts h_now h_before h_el ne_el_now) rfl rfl (Nat.le_of_ble_eq_true rfl) ⟨by decide, by decide, by decide, by decide⟩ (fun r w9 hq => ?_)
  obtain ⟨rfl, t1, t2, hs⟩ := hq
  obtain ⟨w1, rfl⟩ : ∃ z, z = w9 := ⟨_, rfl⟩
  have h_who := hs _ _ (fun z => z.elim (fw_oo h_who h_acts (by decide)) (fw_oo h_who h_now (by decide))) h_who
  have h_before := hs _ _ (fun z => z.elim (fw_ao h_before h_acts) (fw_ao h_before h_now)) h_before
  have h_el := hs _ _ (fun z => z.elim (fw_oo h_el h_acts (by decide)) ne_el_now) h_el
  have h_acts := t1
  have h_now := t2
  have hE := hE.trans (hs.mono (fun _ z => z.elim (fun z => (Or.inl z)) (fun z => (Or.inr z))))
  show V g X 1 w1 0 0 11 [(0, .ref (A 0))] [.int (bI ((f_X0_takeBack acts_count now el).1))]
  have hJ3 : V g X 1 w1 0 0 26 [(0, .ref (A 0))] [.int (if (f_X0_takeBack acts_count now el).1 = true then nI ((f_X0_takeBack acts_count now el).2.1) else (-3 : Int32))] := by
    have hf : (f_X8_undo acts_count now el) = ((if (f_X0_takeBack acts_count now el).1 = true then nI ((f_X0_takeBack acts_count now el).2.1) else (-3 : Int32)), (f_X0_takeBack acts_count now el).2.1, (f_X0_takeBack acts_count now el).2.2) := by first | (simp only [f_X8_undo]; done) | rfl | (simp only [f_X8_undo]; rfl)
    refine vv_iret hC hR rfl dX8_undo_26 (by omega) (by omega) ?_
    rw [hf]
    try dsimp only
    exact ⟨rfl, h_acts, h_now, hE⟩
  refine vv_if_eq hC 24 dX8_undo_11 (by decide) (fun c2 => ?_) (fun c2 => ?_)
  · have c2 : ¬ ((f_X0_takeBack acts_count now el).1 = true) := bI_f c2
    refine vv_bipush (v := (-3)) hC dX8_undo_24 (by decide) ?_
    have hz := hJ3
    try simp only [if_neg c2] at hz
    first | exact hz | (simp only [if_neg c2]; exact hz)
  · have c2 : (f_X0_takeBack acts_count now el).1 = true := bI_t c2
    refine vv_aload_n hC 0 dX8_undo_14 rfl rfl ?_
    refine vv_get (v := .ref (A 5)) hC fl_X8_36 dX8_undo_15 h_who rfl ?_
    refine vv_getN (v := .int (nI ((f_X0_takeBack acts_count now el).2.1))) hC fl_X8_195 dX8_undo_18 h_acts rfl ?_
    refine vv_goto hC 26 dX8_undo_21 (by decide) ?_
    have hz := hJ3
    try simp only [if_pos c2] at hz
    first | exact hz | (simp only [if_pos c2]; exact hz)
def f_X8_keep_in (who_keptSlots : Int32) (el : TN) (now : TN) (p1 : Int32) : Int32 × Int32 × TN := (gN_number now, (who_keptSlots ||| f_X8_bit (nI (tn p1))), (f_X2_copyFrom el now))
set_option maxHeartbeats 4000000 in
set_option maxRecDepth 100000 in
theorem c_X8_keep_in (g : GT) (w0 : Wd) (A : Nat → Nat) (hA : ∀ i j, i < 60 → j < 60 → A i = A j → i = j) (vi : Nat) (a_el : Nat) (who_keptSlots : Int32) (who_seed : Int64) (slots : Nat → Option Nat) (el : TN) (now : TN) (p1 : Int32) (hp1 : p1 = nI (tn p1)) (hpb : tn p1 < 2) (hel : slots (tn p1) = some a_el) (h_who : w0 (A 0) = some (.inr (8, cWh A vi (who_keptSlots, who_seed)))) (h_slots : w0 (A 7) = some (.inl (g.2.2.1 4, 2, .inr (.inr (.inr (.inr slots)))))) (h_el : w0 a_el = some (.inr (2, cN el))) (h_now : w0 (A 3) = some (.inr (2, cN now))) (ne_el_now : ¬ a_el = A 3) : CT g yX8_keep cX8_keep 3 (some .int) 1 21 0 0 w0 [.ref (A 0), .int p1] (fun r w2 => r = some (.int ((f_X8_keep_in who_keptSlots el now p1).1)) ∧ w2 (A 0) = some (.inr (8, cWh A vi ((f_X8_keep_in who_keptSlots el now p1).2.1, who_seed))) ∧ w2 a_el = some (.inr (2, cN ((f_X8_keep_in who_keptSlots el now p1).2.2))) ∧ wE (fun q => q = (A 0) ∨ q = a_el) w0 w2) := by
  refine CT.of (own := RX8) (by decide +kernel) rfl (Nat.le_of_ble_eq_true rfl) (fun X hC hR hI => ?_)
  show V g X 3 w0 0 0 0 [(0, .ref (A 0)), (1, .int p1)] []
  have hE : wE (fun q => q = (A 0) ∨ q = a_el) w0 w0 := wE.refl
  refine vv_aload_n hC 0 dX8_keep_0 rfl rfl ?_
  refine vv_get (v := .ref (A 7)) hC fl_X8_40 dX8_keep_1 h_who rfl ?_
  refine vv_iload_n hC 1 dX8_keep_4 rfl rfl ?_
  refine vv_topi (nI (tn p1)) (hp1) ?_
  refine vv_callS hC dX8_keep_5 md_X8_nightAt lk_m_X8_293 lk_t_X8_nightAt (As := [.ref (A 7), .int (nI (tn p1))]) (rest := []) (c_X8_nightAt g w0 (A 7) 2 (tn p1) slots a_el (by omega) (by decide) (hel) h_slots) rfl rfl (Nat.le_of_ble_eq_true rfl) ⟨by decide, by decide, by decide, by decide⟩ (fun r w9 hq => ?_)
  obtain ⟨rfl, rfl⟩ := hq
  show V g X 3 w0 0 0 8 [(0, .ref (A 0)), (1, .int p1)] [.ref a_el]
  refine vv_astore_n (lv2 := [(2, .ref a_el), (0, .ref (A 0)), (1, .int p1)]) hC dX8_keep_8 rfl (by decide) rfl ?_
  refine vv_aload_n hC 0 dX8_keep_9 rfl rfl ?_
  refine vv_ifnonnull hC 15 dX8_keep_10 (by decide) ?_
  refine vv_aload_n hC 0 dX8_keep_15 rfl rfl ?_
  refine vv_aload_n hC 1 dX8_keep_16 rfl rfl ?_
  refine vv_get (v := .ref (A 3)) hC fl_X8_26 dX8_keep_17 h_who rfl ?_
  refine vv_callV hC dX8_keep_20 md_X2_copyFrom lk_m_X8_204 lk_i_X2_copyFrom lk_s_X2_copyFrom h_el rfl (As := [.ref (A 3)]) (rest := []) (c_X2_copyFrom g w0 a_el (A 3) el now h_el h_now ne_el_now) rfl rfl (Nat.le_of_ble_eq_true rfl) ⟨by decide, by decide, by decide, by decide⟩ (fun r w9 hq => ?_)
  obtain ⟨rfl, t1, hs⟩ := hq
  obtain ⟨w1, rfl⟩ : ∃ z, z = w9 := ⟨_, rfl⟩
  have h_who := hs _ _ (fw_oo h_who h_el (by decide)) h_who
  have h_slots := hs _ _ (fw_ao h_slots h_el) h_slots
  have h_now := hs _ _ (fun e => ne_el_now e.symm) h_now
  have h_el := t1
  have hE := hE.trans (hs.mono (fun _ z => (Or.inr z)))
  show V g X 3 w1 0 0 23 [(2, .ref a_el), (0, .ref (A 0)), (1, .int p1)] []
  refine vv_aload_n hC 1 dX8_keep_23 rfl rfl ?_
  refine vv_dup hC dX8_keep_24 rfl ?_
  refine vv_get (v := .int who_keptSlots) hC fl_X8_44 dX8_keep_25 h_who rfl ?_
  refine vv_iload_n hC 2 dX8_keep_28 rfl rfl ?_
  refine vv_topi (nI (tn p1)) (hp1) ?_
  refine vv_callS hC dX8_keep_29 md_X8_bit lk_m_X8_184 lk_t_X8_bit (As := [.int (nI (tn p1))]) (rest := [.int who_keptSlots, .ref (A 0)]) (c_X8_bit g w1 (nI (tn p1))) rfl rfl (Nat.le_of_ble_eq_true rfl) ⟨by decide, by decide, by decide, by decide⟩ (fun r w9 hq => ?_)
  obtain ⟨rfl, rfl⟩ := hq
  show V g X 3 w1 0 0 32 [(2, .ref a_el), (0, .ref (A 0)), (1, .int p1)] [.int (f_X8_bit (nI (tn p1))), .int who_keptSlots, .ref (A 0)]
  refine vv_ior hC dX8_keep_32 ?_
  refine vv_put hC fp_X8_44 dX8_keep_33 h_who rfl rfl (Nat.le_of_ble_eq_true rfl) (fun w2 t1 hs => ?_)
  have t1 : w2 (A 0) = some (.inr (8, cWh A vi ((who_keptSlots ||| f_X8_bit (nI (tn p1))), who_seed))) := t1.trans (congrArg (fun z => some (Sum.inr (8, z))) (eWh_keptSlots _ _ _ _ _))
  have h_slots := hs _ _ (fw_ao h_slots h_who) h_slots
  have h_el := hs _ _ (fw_oo h_el h_who (by decide)) h_el
  have h_now := hs _ _ (fw_oo h_now h_who (by decide)) h_now
  have h_who := t1
  have hE := hE.trans (hs.mono (fun _ z => (Or.inl z)))
  refine vv_aload_n hC 1 dX8_keep_36 rfl rfl ?_
  refine vv_get (v := .ref (A 3)) hC fl_X8_26 dX8_keep_37 h_who rfl ?_
  refine vv_getN (v := .int (gN_number now)) hC fl_X8_297 dX8_keep_40 h_now rfl ?_
  have hf : (f_X8_keep_in who_keptSlots el now p1) = (gN_number now, (who_keptSlots ||| f_X8_bit (nI (tn p1))), (f_X2_copyFrom el now)) := by first | (simp only [f_X8_keep_in]; done) | rfl | (simp only [f_X8_keep_in]; rfl)
  refine vv_iret hC hR rfl dX8_keep_43 (by omega) (by omega) ?_
  rw [hf]
  try dsimp only
  exact ⟨rfl, h_who, h_el, hE⟩
def f_X8_keep_out : Int32 := (-1)
set_option maxHeartbeats 4000000 in
set_option maxRecDepth 100000 in
theorem c_X8_keep_out (g : GT) (w0 : Wd) (A : Nat → Nat) (hA : ∀ i j, i < 60 → j < 60 → A i = A j → i = j) (vi : Nat) (who_keptSlots : Int32) (who_seed : Int64) (slots : Nat → Option Nat) (p1 : Int32) (ho : p1 < 0 ∨ nI 2 ≤ p1) (h_who : w0 (A 0) = some (.inr (8, cWh A vi (who_keptSlots, who_seed)))) (h_slots : w0 (A 7) = some (.inl (g.2.2.1 4, 2, .inr (.inr (.inr (.inr slots)))))) : CT g yX8_keep cX8_keep 3 (some .int) 1 21 0 0 w0 [.ref (A 0), .int p1] (fun r w2 => r = some (.int f_X8_keep_out) ∧ w0 = w2) := by
  refine CT.of (own := RX8) (by decide +kernel) rfl (Nat.le_of_ble_eq_true rfl) (fun X hC hR hI => ?_)
  show V g X 3 w0 0 0 0 [(0, .ref (A 0)), (1, .int p1)] []
  refine vv_aload_n hC 0 dX8_keep_0 rfl rfl ?_
  refine vv_get (v := .ref (A 7)) hC fl_X8_40 dX8_keep_1 h_who rfl ?_
  refine vv_iload_n hC 1 dX8_keep_4 rfl rfl ?_
  refine vv_callS hC dX8_keep_5 md_X8_nightAt lk_m_X8_293 lk_t_X8_nightAt (As := [.ref (A 7), .int p1]) (rest := []) (c_X8_nightAt_null g w0 (A 7) 2 p1 slots ho (by decide) h_slots) rfl rfl (Nat.le_of_ble_eq_true rfl) ⟨by decide, by decide, by decide, by decide⟩ (fun r w9 hq => ?_)
  obtain ⟨rfl, rfl⟩ := hq
  show V g X 3 w0 0 0 8 [(0, .ref (A 0)), (1, .int p1)] [.null]
  refine vv_astore_nN (lv2 := [(2, .null), (0, .ref (A 0)), (1, .int p1)]) hC dX8_keep_8 rfl (by decide) rfl ?_
  refine vv_aload_nN  hC 0 dX8_keep_9 rfl rfl ?_
  refine vv_ifnonnullN hC dX8_keep_10 ?_
  refine vv_iconst (v := (-1)) hC dX8_keep_13 (by decide) ?_
  have hf : f_X8_keep_out = (-1) := by first | (simp only [f_X8_keep_out]; done) | rfl | (simp only [f_X8_keep_out]; rfl)
  refine vv_iret hC hR rfl dX8_keep_14 (by omega) (by omega) ?_
  rw [hf]
  exact ⟨rfl, rfl⟩
def f_X8_again_in (who_keptSlots : Int32) (el : TN) (now : TN) (acts_count : Nat) (p1 : Int32) : Int32 × TN × Nat := (if f_X8_has who_keptSlots (nI (tn p1)) = true then (gN_number (f_X2_copyFrom now el), (f_X2_copyFrom now el), (f_X0_clear)) else ((-3), now, acts_count))
set_option maxHeartbeats 4000000 in
set_option maxRecDepth 100000 in
theorem c_X8_again_in (g : GT) (w0 : Wd) (A : Nat → Nat) (hA : ∀ i j, i < 60 → j < 60 → A i = A j → i = j) (vi : Nat) (a_el : Nat) (who_keptSlots : Int32) (who_seed : Int64) (slots : Nat → Option Nat) (el : TN) (now : TN) (acts_start : Nat) (acts_count : Nat) (p1 : Int32) (hp1 : p1 = nI (tn p1)) (hpb : tn p1 < 2) (hel : slots (tn p1) = some a_el) (h_who : w0 (A 0) = some (.inr (8, cWh A vi (who_keptSlots, who_seed)))) (h_slots : w0 (A 7) = some (.inl (g.2.2.1 4, 2, .inr (.inr (.inr (.inr slots)))))) (h_el : w0 a_el = some (.inr (2, cN el))) (h_now : w0 (A 3) = some (.inr (2, cN now))) (h_acts : w0 (A 5) = some (.inr (0, cAc (A 6) (acts_start, acts_count)))) (ne_el_now : ¬ a_el = A 3) : CT g yX8_again cX8_again 3 (some .int) 1 21 0 0 w0 [.ref (A 0), .int p1] (fun r w2 => r = some (.int ((f_X8_again_in who_keptSlots el now acts_count p1).1)) ∧ w2 (A 3) = some (.inr (2, cN ((f_X8_again_in who_keptSlots el now acts_count p1).2.1))) ∧ w2 (A 5) = some (.inr (0, cAc (A 6) (acts_start, (f_X8_again_in who_keptSlots el now acts_count p1).2.2))) ∧ wE (fun q => q = (A 3) ∨ q = (A 5)) w0 w2) := by
  refine CT.of (own := RX8) (by decide +kernel) rfl (Nat.le_of_ble_eq_true rfl) (fun X hC hR hI => ?_)
  show V g X 3 w0 0 0 0 [(0, .ref (A 0)), (1, .int p1)] []
  have hE : wE (fun q => q = (A 3) ∨ q = (A 5)) w0 w0 := wE.refl
  refine vv_aload_n hC 0 dX8_again_0 rfl rfl ?_
  refine vv_get (v := .ref (A 7)) hC fl_X8_40 dX8_again_1 h_who rfl ?_
  refine vv_iload_n hC 1 dX8_again_4 rfl rfl ?_
  refine vv_topi (nI (tn p1)) (hp1) ?_
  refine vv_callS hC dX8_again_5 md_X8_nightAt lk_m_X8_293 lk_t_X8_nightAt (As := [.ref (A 7), .int (nI (tn p1))]) (rest := []) (c_X8_nightAt g w0 (A 7) 2 (tn p1) slots a_el (by omega) (by decide) (hel) h_slots) rfl rfl (Nat.le_of_ble_eq_true rfl) ⟨by decide, by decide, by decide, by decide⟩ (fun r w9 hq => ?_)
  obtain ⟨rfl, rfl⟩ := hq
  show V g X 3 w0 0 0 8 [(0, .ref (A 0)), (1, .int p1)] [.ref a_el]
  refine vv_astore_n (lv2 := [(2, .ref a_el), (0, .ref (A 0)), (1, .int p1)]) hC dX8_again_8 rfl (by decide) rfl ?_
  refine vv_aload_n hC 0 dX8_again_9 rfl rfl ?_
  refine vv_ifnonnull hC 15 dX8_again_10 (by decide) ?_
  refine vv_aload_n hC 1 dX8_again_15 rfl rfl ?_
  refine vv_get (v := .int who_keptSlots) hC fl_X8_44 dX8_again_16 h_who rfl ?_
  refine vv_iload_n hC 2 dX8_again_19 rfl rfl ?_
  refine vv_topi (nI (tn p1)) (hp1) ?_
  refine vv_callS hC dX8_again_20 md_X8_has lk_m_X8_166 lk_t_X8_has (As := [.int who_keptSlots, .int (nI (tn p1))]) (rest := []) (c_X8_has g w0 who_keptSlots (nI (tn p1))) rfl rfl (Nat.le_of_ble_eq_true rfl) ⟨by decide, by decide, by decide, by decide⟩ (fun r w9 hq => ?_)
  obtain ⟨rfl, rfl⟩ := hq
  show V g X 3 w0 0 0 23 [(2, .ref a_el), (0, .ref (A 0)), (1, .int p1)] [.int (bI (f_X8_has who_keptSlots (nI (tn p1))))]
  refine vv_if_ne hC 29 dX8_again_23 (by decide) (fun c1 => ?_) (fun c1 => ?_)
  · have c1 : f_X8_has who_keptSlots (nI (tn p1)) = true := bI_t c1
    refine vv_aload_n hC 1 dX8_again_29 rfl rfl ?_
    refine vv_get (v := .ref (A 3)) hC fl_X8_26 dX8_again_30 h_who rfl ?_
    refine vv_aload_n hC 0 dX8_again_33 rfl rfl ?_
    refine vv_callV hC dX8_again_34 md_X2_copyFrom lk_m_X8_204 lk_i_X2_copyFrom lk_s_X2_copyFrom h_now rfl (As := [.ref a_el]) (rest := []) (c_X2_copyFrom g w0 (A 3) a_el now el h_now h_el (fun e => ne_el_now e.symm)) rfl rfl (Nat.le_of_ble_eq_true rfl) ⟨by decide, by decide, by decide, by decide⟩ (fun r w9 hq => ?_)
    obtain ⟨rfl, t1, hs⟩ := hq
    obtain ⟨w2, rfl⟩ : ∃ z, z = w9 := ⟨_, rfl⟩
    have h_who := hs _ _ (fw_oo h_who h_now (by decide)) h_who
    have h_slots := hs _ _ (fw_ao h_slots h_now) h_slots
    have h_el := hs _ _ ne_el_now h_el
    have h_acts := hs _ _ (fw_oo h_acts h_now (by decide)) h_acts
    have h_now := t1
    have hE := hE.trans (hs.mono (fun _ z => (Or.inl z)))
    show V g X 3 w2 0 0 37 [(2, .ref a_el), (0, .ref (A 0)), (1, .int p1)] []
    refine vv_aload_n hC 1 dX8_again_37 rfl rfl ?_
    refine vv_get (v := .ref (A 5)) hC fl_X8_36 dX8_again_38 h_who rfl ?_
    refine vv_callV hC dX8_again_41 md_X0_clear lk_m_X8_98 lk_i_X0_clear lk_s_X0_clear h_acts rfl (As := []) (rest := []) (c_X0_clear g w2 (A 5) (A 6) acts_start acts_count h_acts) rfl rfl (Nat.le_of_ble_eq_true rfl) ⟨by decide, by decide, by decide, by decide⟩ (fun r w9 hq => ?_)
    obtain ⟨rfl, t1, hs⟩ := hq
    obtain ⟨w3, rfl⟩ : ∃ z, z = w9 := ⟨_, rfl⟩
    have h_who := hs _ _ (fw_oo h_who h_acts (by decide)) h_who
    have h_slots := hs _ _ (fw_ao h_slots h_acts) h_slots
    have h_el := hs _ _ (fw_oo h_el h_acts (by decide)) h_el
    have h_now := hs _ _ (fw_oo h_now h_acts (by decide)) h_now
    have h_acts := t1
    have hE := hE.trans (hs.mono (fun _ z => (Or.inr z)))
    show V g X 3 w3 0 0 44 [(2, .ref a_el), (0, .ref (A 0)), (1, .int p1)] []
    refine vv_aload_n hC 1 dX8_again_44 rfl rfl ?_
    refine vv_get (v := .ref (A 3)) hC fl_X8_26 dX8_again_45 h_who rfl ?_
    refine vv_getN (v := .int (gN_number (f_X2_copyFrom now el))) hC fl_X8_297 dX8_again_48 h_now rfl ?_
    have hf : (f_X8_again_in who_keptSlots el now acts_count p1) = (gN_number (f_X2_copyFrom now el), (f_X2_copyFrom now el), (f_X0_clear)) := by first | (simp only [f_X8_again_in, if_pos c1]; done) | rfl | (simp only [f_X8_again_in, if_pos c1]; rfl)
    refine vv_iret hC hR rfl dX8_again_51 (by omega) (by omega) ?_
    rw [hf]
    try dsimp only
    exact ⟨rfl, h_now, h_acts, hE⟩
  · have c1 : ¬ (f_X8_has who_keptSlots (nI (tn p1)) = true) := bI_f c1
    refine vv_bipush (v := (-3)) hC dX8_again_26 (by decide) ?_
    have hf : (f_X8_again_in who_keptSlots el now acts_count p1) = ((-3), now, acts_count) := by first | (simp only [f_X8_again_in, if_neg c1]; done) | rfl | (simp only [f_X8_again_in, if_neg c1]; rfl)
    refine vv_iret hC hR rfl dX8_again_28 (by omega) (by omega) ?_
    rw [hf]
    try dsimp only
    exact ⟨rfl, h_now, h_acts, hE⟩
def f_X8_again_out : Int32 := (-1)
set_option maxHeartbeats 4000000 in
set_option maxRecDepth 100000 in
theorem c_X8_again_out (g : GT) (w0 : Wd) (A : Nat → Nat) (hA : ∀ i j, i < 60 → j < 60 → A i = A j → i = j) (vi : Nat) (who_keptSlots : Int32) (who_seed : Int64) (slots : Nat → Option Nat) (p1 : Int32) (ho : p1 < 0 ∨ nI 2 ≤ p1) (h_who : w0 (A 0) = some (.inr (8, cWh A vi (who_keptSlots, who_seed)))) (h_slots : w0 (A 7) = some (.inl (g.2.2.1 4, 2, .inr (.inr (.inr (.inr slots)))))) : CT g yX8_again cX8_again 3 (some .int) 1 21 0 0 w0 [.ref (A 0), .int p1] (fun r w2 => r = some (.int f_X8_again_out) ∧ w0 = w2) := by
  refine CT.of (own := RX8) (by decide +kernel) rfl (Nat.le_of_ble_eq_true rfl) (fun X hC hR hI => ?_)
  show V g X 3 w0 0 0 0 [(0, .ref (A 0)), (1, .int p1)] []
  refine vv_aload_n hC 0 dX8_again_0 rfl rfl ?_
  refine vv_get (v := .ref (A 7)) hC fl_X8_40 dX8_again_1 h_who rfl ?_
  refine vv_iload_n hC 1 dX8_again_4 rfl rfl ?_
  refine vv_callS hC dX8_again_5 md_X8_nightAt lk_m_X8_293 lk_t_X8_nightAt (As := [.ref (A 7), .int p1]) (rest := []) (c_X8_nightAt_null g w0 (A 7) 2 p1 slots ho (by decide) h_slots) rfl rfl (Nat.le_of_ble_eq_true rfl) ⟨by decide, by decide, by decide, by decide⟩ (fun r w9 hq => ?_)
  obtain ⟨rfl, rfl⟩ := hq
  show V g X 3 w0 0 0 8 [(0, .ref (A 0)), (1, .int p1)] [.null]
  refine vv_astore_nN (lv2 := [(2, .null), (0, .ref (A 0)), (1, .int p1)]) hC dX8_again_8 rfl (by decide) rfl ?_
  refine vv_aload_nN  hC 0 dX8_again_9 rfl rfl ?_
  refine vv_ifnonnullN hC dX8_again_10 ?_
  refine vv_iconst (v := (-1)) hC dX8_again_13 (by decide) ?_
  have hf : f_X8_again_out = (-1) := by first | (simp only [f_X8_again_out]; done) | rfl | (simp only [f_X8_again_out]; rfl)
  refine vv_iret hC hR rfl dX8_again_14 (by omega) (by omega) ?_
  rw [hf]
  exact ⟨rfl, rfl⟩
