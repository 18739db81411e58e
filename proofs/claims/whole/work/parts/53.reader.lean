def f_X3_readPart (rd_place : Int32) (rd_endA : Int32) (rd_endB : Int32) (text_length : Nat) (bytes : Nat → Int32) (village : TVi) : Bool × Int32 × Int32 × Int32 × TVi := (if f_X6_byteAt text_length bytes rd_place = 72 then ((f_X3_readHouse rd_place village text_length bytes).1, (f_X3_readHouse rd_place village text_length bytes).2.1, rd_endA, rd_endB, (f_X3_readHouse rd_place village text_length bytes).2.2) else (if f_X6_byteAt text_length bytes rd_place = 75 then ((f_X3_readKin rd_place rd_endA rd_endB village text_length bytes).1, (f_X3_readKin rd_place rd_endA rd_endB village text_length bytes).2.1, (f_X3_readKin rd_place rd_endA rd_endB village text_length bytes).2.2.1, (f_X3_readKin rd_place rd_endA rd_endB village text_length bytes).2.2.2.1, (f_X3_readKin rd_place rd_endA rd_endB village text_length bytes).2.2.2.2) else (if f_X6_byteAt text_length bytes rd_place = 80 then ((f_X3_readPerson rd_place village text_length bytes).1, (f_X3_readPerson rd_place village text_length bytes).2.1, rd_endA, rd_endB, (f_X3_readPerson rd_place village text_length bytes).2.2) else (if f_X6_byteAt text_length bytes rd_place = 82 then ((f_X3_readPath rd_place rd_endA rd_endB village text_length bytes).1, (f_X3_readPath rd_place rd_endA rd_endB village text_length bytes).2.1, (f_X3_readPath rd_place rd_endA rd_endB village text_length bytes).2.2.1, (f_X3_readPath rd_place rd_endA rd_endB village text_length bytes).2.2.2.1, (f_X3_readPath rd_place rd_endA rd_endB village text_length bytes).2.2.2.2) else (false, rd_place, rd_endA, rd_endB, village)))))
set_option maxHeartbeats 4000000 in
set_option maxRecDepth 100000 in
theorem c_X3_readPart (g : GT) (w0 : Wd) (a_rd : Nat) (a_text : Nat) (a_village : Nat) (a_bytes : Nat) (rd_place : Int32) (rd_endA : Int32) (rd_endB : Int32) (text_length : Nat) (bytes : Nat → Int32) (village : TVi) (hvh : gVi_houses village ≤ 4) (hvp : gVi_people village ≤ 6) (h_rd : w0 a_rd = some (.inr (3, cRd a_text a_village (rd_place, rd_endA, rd_endB)))) (h_text : w0 a_text = some (.inr (6, cTx a_bytes text_length))) (h_bytes : w0 a_bytes = some (.inl (g.2.2.1 2, 96, .inl bytes))) (h_village : w0 a_village = some (.inr (7, cVi village))) : CT g yX3_readPart cX3_readPart 1 (some .boolean) 5 114 0 0 w0 [.ref a_rd] (fun r w2 => r = some (.int (bI ((f_X3_readPart rd_place rd_endA rd_endB text_length bytes village).1))) ∧ w2 a_rd = some (.inr (3, cRd a_text a_village ((f_X3_readPart rd_place rd_endA rd_endB text_length bytes village).2.1, (f_X3_readPart rd_place rd_endA rd_endB text_length bytes village).2.2.1, (f_X3_readPart rd_place rd_endA rd_endB text_length bytes village).2.2.2.1))) ∧ w2 a_village = some (.inr (7, cVi ((f_X3_readPart rd_place rd_endA rd_endB text_length bytes village).2.2.2.2))) ∧ wE (fun q => q = a_rd ∨ q = a_village) w0 w2) := by
  refine CT.of (own := RX3) (by decide +kernel) rfl (Nat.le_of_ble_eq_true rfl) (fun X hC hR hI => ?_)
  show V g X 1 w0 0 0 0 [(0, .ref a_rd)] []
  have hE : wE (fun q => q = a_rd ∨ q = a_village) w0 w0 := wE.refl
  refine vv_aload_n hC 0 dX3_readPart_0 rfl rfl ?_
  refine vv_get (v := .ref a_text) hC fl_X3_28 dX3_readPart_1 h_rd rfl ?_
  refine vv_aload_n hC 0 dX3_readPart_4 rfl rfl ?_
  refine vv_get (v := .int rd_place) hC fl_X3_18 dX3_readPart_5 h_rd rfl ?_
  refine vv_callV hC dX3_readPart_8 md_X6_byteAt lk_m_X3_32 lk_i_X6_byteAt lk_s_X6_byteAt h_text rfl (As := [.int rd_place]) (rest := []) (c_X6_byteAt g w0 a_text a_bytes text_length bytes rd_place h_text h_bytes) rfl rfl (Nat.le_of_ble_eq_true rfl) ⟨by decide, by decide, by decide, by decide⟩ (fun r w9 hq => ?_)
  obtain ⟨rfl, rfl⟩ := hq
  show V g X 1 w0 0 0 11 [(0, .ref a_rd)] [.int (f_X6_byteAt text_length bytes rd_place)]
  by_cases c1 : f_X6_byteAt text_length bytes rd_place = 72
  · refine vv_lookup hC 52 dX3_readPart_11 (by decide) (by rw [c1] <;> rfl) (by decide) ?_
    refine vv_aload_n hC 0 dX3_readPart_52 rfl rfl ?_
    refine vv_callV hC dX3_readPart_53 md_X3_readHouse lk_m_X3_45 lk_i_X3_readHouse lk_s_X3_readHouse h_rd rfl (As := []) (rest := []) (c_X3_readHouse g w0 a_rd a_text a_village a_bytes rd_place rd_endA rd_endB village text_length bytes (by omega) (by omega) h_rd h_village h_text h_bytes) rfl rfl (Nat.le_of_ble_eq_true rfl) ⟨by decide, by decide, by decide, by decide⟩ (fun r w9 hq => ?_)
    obtain ⟨rfl, t1, t2, hs⟩ := hq
    obtain ⟨w2, rfl⟩ : ∃ z, z = w9 := ⟨_, rfl⟩
    have h_text := hs _ _ (fun z => z.elim (fw_oo h_text h_rd (by decide)) (fw_oo h_text h_village (by decide))) h_text
    have h_bytes := hs _ _ (fun z => z.elim (fw_ao h_bytes h_rd) (fw_ao h_bytes h_village)) h_bytes
    have h_rd := t1
    have h_village := t2
    have hE := hE.trans (hs.mono (fun _ z => z.elim (fun z => (Or.inl z)) (fun z => (Or.inr z))))
    show V g X 1 w2 0 0 56 [(0, .ref a_rd)] [.int (bI ((f_X3_readHouse rd_place village text_length bytes).1))]
    have hf : (f_X3_readPart rd_place rd_endA rd_endB text_length bytes village) = ((f_X3_readHouse rd_place village text_length bytes).1, (f_X3_readHouse rd_place village text_length bytes).2.1, rd_endA, rd_endB, (f_X3_readHouse rd_place village text_length bytes).2.2) := by first | (simp only [f_X3_readPart, if_pos c1]; done) | rfl | (simp only [f_X3_readPart, if_pos c1]; rfl)
    refine vv_zret hC hR rfl (bI_nar _) dX3_readPart_56 (by omega) (by omega) ?_
    rw [hf]
    try dsimp only
    exact ⟨rfl, h_rd, h_village, hE⟩
  · by_cases c3 : f_X6_byteAt text_length bytes rd_place = 75
    · refine vv_lookup hC 67 dX3_readPart_11 (by decide) (by rw [c3] <;> rfl) (by decide) ?_
      refine vv_aload_n hC 0 dX3_readPart_67 rfl rfl ?_
      refine vv_callV hC dX3_readPart_68 md_X3_readKin lk_m_X3_54 lk_i_X3_readKin lk_s_X3_readKin h_rd rfl (As := []) (rest := []) (c_X3_readKin g w0 a_rd a_text a_village a_bytes rd_place rd_endA rd_endB village text_length bytes (by omega) (by omega) h_rd h_village h_text h_bytes) rfl rfl (Nat.le_of_ble_eq_true rfl) ⟨by decide, by decide, by decide, by decide⟩ (fun r w9 hq => ?_)
      obtain ⟨rfl, t1, t2, hs⟩ := hq
      obtain ⟨w4, rfl⟩ : ∃ z, z = w9 := ⟨_, rfl⟩
      have h_text := hs _ _ (fun z => z.elim (fw_oo h_text h_rd (by decide)) (fw_oo h_text h_village (by decide))) h_text
      have h_bytes := hs _ _ (fun z => z.elim (fw_ao h_bytes h_rd) (fw_ao h_bytes h_village)) h_bytes
      have h_rd := t1
      have h_village := t2
      have hE := hE.trans (hs.mono (fun _ z => z.elim (fun z => (Or.inl z)) (fun z => (Or.inr z))))
      show V g X 1 w4 0 0 71 [(0, .ref a_rd)] [.int (bI ((f_X3_readKin rd_place rd_endA rd_endB village text_length bytes).1))]
      have hf : (f_X3_readPart rd_place rd_endA rd_endB text_length bytes village) = ((f_X3_readKin rd_place rd_endA rd_endB village text_length bytes).1, (f_X3_readKin rd_place rd_endA rd_endB village text_length bytes).2.1, (f_X3_readKin rd_place rd_endA rd_endB village text_length bytes).2.2.1, (f_X3_readKin rd_place rd_endA rd_endB village text_length bytes).2.2.2.1, (f_X3_readKin rd_place rd_endA rd_endB village text_length bytes).2.2.2.2) := by first | (simp only [f_X3_readPart, if_neg c1, if_pos c3]; done) | rfl | (simp only [f_X3_readPart, if_neg c1, if_pos c3]; rfl)
      refine vv_zret hC hR rfl (bI_nar _) dX3_readPart_71 (by omega) (by omega) ?_
      rw [hf]
      try dsimp only
      exact ⟨rfl, h_rd, h_village, hE⟩
    · by_cases c5 : f_X6_byteAt text_length bytes rd_place = 80
      · refine vv_lookup hC 62 dX3_readPart_11 (by decide) (by rw [c5] <;> rfl) (by decide) ?_
        refine vv_aload_n hC 0 dX3_readPart_62 rfl rfl ?_
        refine vv_callV hC dX3_readPart_63 md_X3_readPerson lk_m_X3_51 lk_i_X3_readPerson lk_s_X3_readPerson h_rd rfl (As := []) (rest := []) (c_X3_readPerson g w0 a_rd a_text a_village a_bytes rd_place rd_endA rd_endB village text_length bytes (by omega) (by omega) h_rd h_village h_text h_bytes) rfl rfl (Nat.le_of_ble_eq_true rfl) ⟨by decide, by decide, by decide, by decide⟩ (fun r w9 hq => ?_)
        obtain ⟨rfl, t1, t2, hs⟩ := hq
        obtain ⟨w6, rfl⟩ : ∃ z, z = w9 := ⟨_, rfl⟩
        have h_text := hs _ _ (fun z => z.elim (fw_oo h_text h_rd (by decide)) (fw_oo h_text h_village (by decide))) h_text
        have h_bytes := hs _ _ (fun z => z.elim (fw_ao h_bytes h_rd) (fw_ao h_bytes h_village)) h_bytes
        have h_rd := t1
        have h_village := t2
        have hE := hE.trans (hs.mono (fun _ z => z.elim (fun z => (Or.inl z)) (fun z => (Or.inr z))))
        show V g X 1 w6 0 0 66 [(0, .ref a_rd)] [.int (bI ((f_X3_readPerson rd_place village text_length bytes).1))]
        have hf : (f_X3_readPart rd_place rd_endA rd_endB text_length bytes village) = ((f_X3_readPerson rd_place village text_length bytes).1, (f_X3_readPerson rd_place village text_length bytes).2.1, rd_endA, rd_endB, (f_X3_readPerson rd_place village text_length bytes).2.2) := by first | (simp only [f_X3_readPart, if_neg c1, if_neg c3, if_pos c5]; done) | rfl | (simp only [f_X3_readPart, if_neg c1, if_neg c3, if_pos c5]; rfl)
        refine vv_zret hC hR rfl (bI_nar _) dX3_readPart_66 (by omega) (by omega) ?_
        rw [hf]
        try dsimp only
        exact ⟨rfl, h_rd, h_village, hE⟩
      · by_cases c7 : f_X6_byteAt text_length bytes rd_place = 82
        · refine vv_lookup hC 57 dX3_readPart_11 (by decide) (by rw [c7] <;> rfl) (by decide) ?_
          refine vv_aload_n hC 0 dX3_readPart_57 rfl rfl ?_
          refine vv_callV hC dX3_readPart_58 md_X3_readPath lk_m_X3_48 lk_i_X3_readPath lk_s_X3_readPath h_rd rfl (As := []) (rest := []) (c_X3_readPath g w0 a_rd a_text a_village a_bytes rd_place rd_endA rd_endB village text_length bytes (by omega) (by omega) h_rd h_village h_text h_bytes) rfl rfl (Nat.le_of_ble_eq_true rfl) ⟨by decide, by decide, by decide, by decide⟩ (fun r w9 hq => ?_)
          obtain ⟨rfl, t1, t2, hs⟩ := hq
          obtain ⟨w8, rfl⟩ : ∃ z, z = w9 := ⟨_, rfl⟩
          have h_text := hs _ _ (fun z => z.elim (fw_oo h_text h_rd (by decide)) (fw_oo h_text h_village (by decide))) h_text
          have h_bytes := hs _ _ (fun z => z.elim (fw_ao h_bytes h_rd) (fw_ao h_bytes h_village)) h_bytes
          have h_rd := t1
          have h_village := t2
          have hE := hE.trans (hs.mono (fun _ z => z.elim (fun z => (Or.inl z)) (fun z => (Or.inr z))))
          show V g X 1 w8 0 0 61 [(0, .ref a_rd)] [.int (bI ((f_X3_readPath rd_place rd_endA rd_endB village text_length bytes).1))]
          have hf : (f_X3_readPart rd_place rd_endA rd_endB text_length bytes village) = ((f_X3_readPath rd_place rd_endA rd_endB village text_length bytes).1, (f_X3_readPath rd_place rd_endA rd_endB village text_length bytes).2.1, (f_X3_readPath rd_place rd_endA rd_endB village text_length bytes).2.2.1, (f_X3_readPath rd_place rd_endA rd_endB village text_length bytes).2.2.2.1, (f_X3_readPath rd_place rd_endA rd_endB village text_length bytes).2.2.2.2) := by first | (simp only [f_X3_readPart, if_neg c1, if_neg c3, if_neg c5, if_pos c7]; done) | rfl | (simp only [f_X3_readPart, if_neg c1, if_neg c3, if_neg c5, if_pos c7]; rfl)
          refine vv_zret hC hR rfl (bI_nar _) dX3_readPart_61 (by omega) (by omega) ?_
          rw [hf]
          try dsimp only
          exact ⟨rfl, h_rd, h_village, hE⟩
        · have e_c1 : ¬ (f_X6_byteAt text_length bytes rd_place).toInt = 72 := fun h => c1 (Int32.toInt_inj.mp (h.trans (by decide)))
          have e_c3 : ¬ (f_X6_byteAt text_length bytes rd_place).toInt = 75 := fun h => c3 (Int32.toInt_inj.mp (h.trans (by decide)))
          have e_c5 : ¬ (f_X6_byteAt text_length bytes rd_place).toInt = 80 := fun h => c5 (Int32.toInt_inj.mp (h.trans (by decide)))
          have e_c7 : ¬ (f_X6_byteAt text_length bytes rd_place).toInt = 82 := fun h => c7 (Int32.toInt_inj.mp (h.trans (by decide)))
          refine vv_lookup (off := 61) hC 72 dX3_readPart_11 (by decide) (by simp [Op.lookupswitch.offset, e_c1, e_c3, e_c5, e_c7, Ne.symm e_c1, Ne.symm e_c3, Ne.symm e_c5, Ne.symm e_c7]) (by decide) ?_
          refine vv_iconst (v := 0) hC dX3_readPart_72 (by decide) ?_
          have hf : (f_X3_readPart rd_place rd_endA rd_endB text_length bytes village) = (false, rd_place, rd_endA, rd_endB, village) := by first | (simp only [f_X3_readPart, if_neg c1, if_neg c3, if_neg c5, if_neg c7]; done) | rfl | (simp only [f_X3_readPart, if_neg c1, if_neg c3, if_neg c5, if_neg c7]; rfl)
          refine vv_zret hC hR rfl (by decide) dX3_readPart_73 (by omega) (by omega) ?_
          rw [hf]
          try dsimp only
          exact ⟨rfl, h_rd, h_village, hE⟩
