def f_X3_read_L33 (text_length : Nat) (bytes : Nat → Int32) : Nat → Nat → Int32 → Int32 → Int32 → TVi → Int32 × Int32 × Int32 × Int32 × TVi
  | 0, k33, y_rd_place_33, y_rd_endA_33, y_rd_endB_33, y_village_33 => ((-9), y_rd_place_33, y_rd_endA_33, y_rd_endB_33, y_village_33)
  | r33 + 1, k33, y_rd_place_33, y_rd_endA_33, y_rd_endB_33, y_village_33 => (if nI text_length ≤ y_rd_place_33 then ((-9), y_rd_place_33, y_rd_endA_33, y_rd_endB_33, y_village_33) else (if (f_X3_readPart y_rd_place_33 y_rd_endA_33 y_rd_endB_33 text_length bytes y_village_33).1 = true then f_X3_read_L33 text_length bytes r33 (k33 + 1) ((f_X3_readPart y_rd_place_33 y_rd_endA_33 y_rd_endB_33 text_length bytes y_village_33).2.1) ((f_X3_readPart y_rd_place_33 y_rd_endA_33 y_rd_endB_33 text_length bytes y_village_33).2.2.1) ((f_X3_readPart y_rd_place_33 y_rd_endA_33 y_rd_endB_33 text_length bytes y_village_33).2.2.2.1) ((f_X3_readPart y_rd_place_33 y_rd_endA_33 y_rd_endB_33 text_length bytes y_village_33).2.2.2.2) else ((f_X3_readPart y_rd_place_33 y_rd_endA_33 y_rd_endB_33 text_length bytes y_village_33).2.1, (f_X3_readPart y_rd_place_33 y_rd_endA_33 y_rd_endB_33 text_length bytes y_village_33).2.1, (f_X3_readPart y_rd_place_33 y_rd_endA_33 y_rd_endB_33 text_length bytes y_village_33).2.2.1, (f_X3_readPart y_rd_place_33 y_rd_endA_33 y_rd_endB_33 text_length bytes y_village_33).2.2.2.1, (f_X3_readPart y_rd_place_33 y_rd_endA_33 y_rd_endB_33 text_length bytes y_village_33).2.2.2.2)))
def f_X3_read (rd_place : Int32) (rd_endA : Int32) (rd_endB : Int32) (text_length : Nat) (bytes : Nat → Int32) (village : TVi) : Int32 × Int32 × Int32 × Int32 × TVi := (if f_X6_byteAt text_length bytes rd_place = 86 then f_X3_read_L33 text_length bytes 96 0 (rd_place + 1) rd_endA rd_endB village else (rd_place, rd_place, rd_endA, rd_endB, village))
set_option maxHeartbeats 4000000 in
set_option maxRecDepth 100000 in
theorem c_X3_read (g : GT) (w0 : Wd) (a_rd : Nat) (a_text : Nat) (a_village : Nat) (a_bytes : Nat) (rd_place : Int32) (rd_endA : Int32) (rd_endB : Int32) (text_length : Nat) (bytes : Nat → Int32) (village : TVi) (hvh : gVi_houses village ≤ 4) (hvp : gVi_people village ≤ 6) (h_rd : w0 a_rd = some (.inr (3, cRd a_text a_village (rd_place, rd_endA, rd_endB)))) (h_text : w0 a_text = some (.inr (6, cTx a_bytes text_length))) (h_bytes : w0 a_bytes = some (.inl (g.2.2.1 2, 96, .inl bytes))) (h_village : w0 a_village = some (.inr (7, cVi village))) : CT g yX3_read cX3_read 2 (some .int) 6 134 0 0 w0 [.ref a_rd] (fun r w2 => r = some (.int ((f_X3_read rd_place rd_endA rd_endB text_length bytes village).1)) ∧ w2 a_rd = some (.inr (3, cRd a_text a_village ((f_X3_read rd_place rd_endA rd_endB text_length bytes village).2.1, (f_X3_read rd_place rd_endA rd_endB text_length bytes village).2.2.1, (f_X3_read rd_place rd_endA rd_endB text_length bytes village).2.2.2.1))) ∧ w2 a_village = some (.inr (7, cVi ((f_X3_read rd_place rd_endA rd_endB text_length bytes village).2.2.2.2))) ∧ wE (fun q => q = a_rd ∨ q = a_village) w0 w2) := by
  refine CT.of (own := RX3) (by decide +kernel) rfl (Nat.le_of_ble_eq_true rfl) (fun X hC hR hI => ?_)
  show V g X 2 w0 0 0 0 [(0, .ref a_rd)] []
  have hE : wE (fun q => q = a_rd ∨ q = a_village) w0 w0 := wE.refl
  refine vv_aload_n hC 0 dX3_read_0 rfl rfl ?_
  refine vv_get (v := .ref a_text) hC fl_X3_28 dX3_read_1 h_rd rfl ?_
  refine vv_aload_n hC 0 dX3_read_4 rfl rfl ?_
  refine vv_get (v := .int rd_place) hC fl_X3_18 dX3_read_5 h_rd rfl ?_
  refine vv_callV hC dX3_read_8 md_X6_byteAt lk_m_X3_32 lk_i_X6_byteAt lk_s_X6_byteAt h_text rfl (As := [.int rd_place]) (rest := []) (c_X6_byteAt g w0 a_text a_bytes text_length bytes rd_place h_text h_bytes) rfl rfl (Nat.le_of_ble_eq_true rfl) ⟨by decide, by decide, by decide, by decide⟩ (fun r w9 hq => ?_)
  obtain ⟨rfl, rfl⟩ := hq
  show V g X 2 w0 0 0 11 [(0, .ref a_rd)] [.int (f_X6_byteAt text_length bytes rd_place)]
  refine vv_bipush (v := (86)) hC dX3_read_11 (by decide) ?_
  refine vv_icmp_eq hC 21 dX3_read_13 (by decide) (fun c1 => ?_) (fun c1 => ?_)
  · have c1 : f_X6_byteAt text_length bytes rd_place = 86 := c1
    refine vv_aload_n hC 0 dX3_read_21 rfl rfl ?_
    refine vv_dup hC dX3_read_22 rfl ?_
    refine vv_get (v := .int rd_place) hC fl_X3_18 dX3_read_23 h_rd rfl ?_
    refine vv_iconst (v := 1) hC dX3_read_26 (by decide) ?_
    refine vv_iadd hC dX3_read_27 ?_
    refine vv_put hC fp_X3_18 dX3_read_28 h_rd rfl rfl (Nat.le_of_ble_eq_true rfl) (fun w2 t1 hs => ?_)
    have t1 : w2 a_rd = some (.inr (3, cRd a_text a_village ((rd_place + 1), rd_endA, rd_endB))) := t1.trans (congrArg (fun z => some (Sum.inr (3, z))) (eRd_place _ _ _ _ _ _))
    have h_text := hs _ _ (fw_oo h_text h_rd (by decide)) h_text
    have h_bytes := hs _ _ (fw_ao h_bytes h_rd) h_bytes
    have h_village := hs _ _ (fw_oo h_village h_rd (by decide)) h_village
    have h_rd := t1
    have hE := hE.trans (hs.mono (fun _ z => (Or.inl z)))
    refine vv_iconst (v := 0) hC dX3_read_31 (by decide) ?_
    refine vv_istore_n (lv2 := [(1, .int 0), (0, .ref a_rd)]) hC dX3_read_32 rfl (by decide) rfl ?_
    have hL7 : ∀ (r33 k33 : Nat) (y_rd_place_33 : Int32) (y_rd_endA_33 : Int32) (y_rd_endB_33 : Int32) (y_village_33 : TVi) (w3 : Wd), k33 + r33 = 96 → gVi_houses y_village_33 ≤ 4 → gVi_people y_village_33 ≤ 6 → (f_X3_read rd_place rd_endA rd_endB text_length bytes village) = f_X3_read_L33 text_length bytes r33 k33 y_rd_place_33 y_rd_endA_33 y_rd_endB_33 y_village_33 → w3 a_rd = some (.inr (3, cRd a_text a_village (y_rd_place_33, y_rd_endA_33, y_rd_endB_33))) → w3 a_text = some (.inr (6, cTx a_bytes text_length)) → w3 a_bytes = some (.inl (g.2.2.1 2, 96, .inl bytes)) → w3 a_village = some (.inr (7, cVi y_village_33)) → wE (fun q => q = a_rd ∨ q = a_village) w0 w3 → V g X 2 w3 0 0 33 [(0, .ref a_rd), (1, .int (nI k33))] [] := by
      intro r33
      induction r33 with
      | zero =>
        intro k33 y_rd_place_33 y_rd_endA_33 y_rd_endB_33 y_village_33 w3 hb hvh hvp ho h_rd h_text h_bytes h_village hE 
        refine vv_iload_n hC 1 dX3_read_33 rfl rfl ?_
        refine vv_bipush (v := (96)) hC dX3_read_34 (by decide) ?_
        refine vv_icmp_ge hC 71 dX3_read_36 (by decide) (fun c => ?_) (fun c => False.elim (c ((nI_le_ (a := 96) (b := k33) (by omega) (by omega)).mpr (by omega))))
        refine vv_bipush (v := (-9)) hC dX3_read_71 (by decide) ?_
        have hf : (f_X3_read rd_place rd_endA rd_endB text_length bytes village) = ((-9), y_rd_place_33, y_rd_endA_33, y_rd_endB_33, y_village_33) := ho.trans (by first | (simp only [f_X3_read_L33]; done) | rfl | (simp only [f_X3_read_L33]; rfl))
        refine vv_iret hC hR rfl dX3_read_73 (by omega) (by omega) ?_
        rw [hf]
        try dsimp only
        exact ⟨rfl, h_rd, h_village, hE⟩
      | succ r33 ih =>
        intro k33 y_rd_place_33 y_rd_endA_33 y_rd_endB_33 y_village_33 w3 hb hvh hvp ho h_rd h_text h_bytes h_village hE 
        refine vv_iload_n hC 1 dX3_read_33 rfl rfl ?_
        refine vv_bipush (v := (96)) hC dX3_read_34 (by decide) ?_
        refine vv_icmp_ge hC 71 dX3_read_36 (by decide) (fun c => absurd ((nI_le_ (a := 96) (b := k33) (by omega) (by omega)).mp c) (by first | omega | decide)) (fun c => ?_)
        refine vv_aload_n hC 0 dX3_read_39 rfl rfl ?_
        refine vv_get (v := .int y_rd_place_33) hC fl_X3_18 dX3_read_40 h_rd rfl ?_
        refine vv_aload_n hC 0 dX3_read_43 rfl rfl ?_
        refine vv_get (v := .ref a_text) hC fl_X3_28 dX3_read_44 h_rd rfl ?_
        refine vv_getN (v := .int (nI text_length)) hC fl_X3_38 dX3_read_47 h_text rfl ?_
        refine vv_icmp_ge hC 71 dX3_read_50 (by decide) (fun c4 => ?_) (fun c4 => ?_)
        · have c4 : nI text_length ≤ y_rd_place_33 := c4
          refine vv_bipush (v := (-9)) hC dX3_read_71 (by decide) ?_
          have hf : (f_X3_read rd_place rd_endA rd_endB text_length bytes village) = ((-9), y_rd_place_33, y_rd_endA_33, y_rd_endB_33, y_village_33) := ho.trans (by first | (simp only [f_X3_read_L33, if_pos c4]; done) | rfl | (simp only [f_X3_read_L33, if_pos c4]; rfl))
          refine vv_iret hC hR rfl dX3_read_73 (by omega) (by omega) ?_
          rw [hf]
          try dsimp only
          exact ⟨rfl, h_rd, h_village, hE⟩
        · have c4 : ¬ (nI text_length ≤ y_rd_place_33) := c4
          refine vv_aload_n hC 0 dX3_read_53 rfl rfl ?_
          refine vv_callV hC dX3_read_54 md_X3_readPart lk_m_X3_41 lk_i_X3_readPart lk_s_X3_readPart h_rd rfl (As := []) (rest := []) (c_X3_readPart g w3 a_rd a_text a_village a_bytes y_rd_place_33 y_rd_endA_33 y_rd_endB_33 text_length bytes y_village_33 (by omega) (by omega) h_rd h_text h_bytes h_village) rfl rfl (Nat.le_of_ble_eq_true rfl) ⟨by decide, by decide, by decide, by decide⟩ (fun r w9 hq => ?_)
          obtain ⟨rfl, t1, t2, hs⟩ := hq
          obtain ⟨w5, rfl⟩ : ∃ z, z = w9 := ⟨_, rfl⟩
          have h_text := hs _ _ (fun z => z.elim (fw_oo h_text h_rd (by decide)) (fw_oo h_text h_village (by decide))) h_text
          have h_bytes := hs _ _ (fun z => z.elim (fw_ao h_bytes h_rd) (fw_ao h_bytes h_village)) h_bytes
          have h_rd := t1
          have h_village := t2
          have hE := hE.trans (hs.mono (fun _ z => z.elim (fun z => (Or.inl z)) (fun z => (Or.inr z))))
          show V g X 2 w5 0 0 57 [(0, .ref a_rd), (1, .int (nI k33))] [.int (bI ((f_X3_readPart y_rd_place_33 y_rd_endA_33 y_rd_endB_33 text_length bytes y_village_33).1))]
          refine vv_if_ne hC 65 dX3_read_57 (by decide) (fun c6 => ?_) (fun c6 => ?_)
          · have c6 : (f_X3_readPart y_rd_place_33 y_rd_endA_33 y_rd_endB_33 text_length bytes y_village_33).1 = true := bI_t c6
            refine vv_iinc (lv2 := [(1, .int (nI (k33 + 1))), (0, .ref a_rd)]) hC 1 dX3_read_65 rfl (nI_add k33 1) (by decide) rfl ?_
            refine vv_goto hC 33 dX3_read_68 (by decide) ?_
            refine vv_lv [1, 0] rfl ?_
            exact ih (k33 + 1) ((f_X3_readPart y_rd_place_33 y_rd_endA_33 y_rd_endB_33 text_length bytes y_village_33).2.1) ((f_X3_readPart y_rd_place_33 y_rd_endA_33 y_rd_endB_33 text_length bytes y_village_33).2.2.1) ((f_X3_readPart y_rd_place_33 y_rd_endA_33 y_rd_endB_33 text_length bytes y_village_33).2.2.2.1) ((f_X3_readPart y_rd_place_33 y_rd_endA_33 y_rd_endB_33 text_length bytes y_village_33).2.2.2.2) w5 (by omega) ((rPart_v hvh hvp).1) ((rPart_v hvh hvp).2) (ho.trans (by first | (simp only [f_X3_read_L33, if_neg c4, if_pos c6]; done) | rfl | (simp only [f_X3_read_L33, if_neg c4, if_pos c6]; rfl))) h_rd h_text h_bytes h_village hE
          · have c6 : ¬ ((f_X3_readPart y_rd_place_33 y_rd_endA_33 y_rd_endB_33 text_length bytes y_village_33).1 = true) := bI_f c6
            refine vv_aload_n hC 0 dX3_read_60 rfl rfl ?_
            refine vv_get (v := .int ((f_X3_readPart y_rd_place_33 y_rd_endA_33 y_rd_endB_33 text_length bytes y_village_33).2.1)) hC fl_X3_18 dX3_read_61 h_rd rfl ?_
            have hf : (f_X3_read rd_place rd_endA rd_endB text_length bytes village) = ((f_X3_readPart y_rd_place_33 y_rd_endA_33 y_rd_endB_33 text_length bytes y_village_33).2.1, (f_X3_readPart y_rd_place_33 y_rd_endA_33 y_rd_endB_33 text_length bytes y_village_33).2.1, (f_X3_readPart y_rd_place_33 y_rd_endA_33 y_rd_endB_33 text_length bytes y_village_33).2.2.1, (f_X3_readPart y_rd_place_33 y_rd_endA_33 y_rd_endB_33 text_length bytes y_village_33).2.2.2.1, (f_X3_readPart y_rd_place_33 y_rd_endA_33 y_rd_endB_33 text_length bytes y_village_33).2.2.2.2) := ho.trans (by first | (simp only [f_X3_read_L33, if_neg c4, if_neg c6]; done) | rfl | (simp only [f_X3_read_L33, if_neg c4, if_neg c6]; rfl))
            refine vv_iret hC hR rfl dX3_read_64 (by omega) (by omega) ?_
            rw [hf]
            try dsimp only
            exact ⟨rfl, h_rd, h_village, hE⟩
    refine vv_lv [1, 0] rfl ?_
    exact hL7 96 0 (rd_place + 1) rd_endA rd_endB village w2 (by omega) (by omega) (by omega) (by first | (simp only [f_X3_read, if_pos c1]; done) | rfl | (simp only [f_X3_read, if_pos c1]; rfl)) h_rd h_text h_bytes h_village hE
  · have c1 : ¬ (f_X6_byteAt text_length bytes rd_place = 86) := c1
    refine vv_aload_n hC 0 dX3_read_16 rfl rfl ?_
    refine vv_get (v := .int rd_place) hC fl_X3_18 dX3_read_17 h_rd rfl ?_
    have hf : (f_X3_read rd_place rd_endA rd_endB text_length bytes village) = (rd_place, rd_place, rd_endA, rd_endB, village) := by first | (simp only [f_X3_read, if_neg c1]; done) | rfl | (simp only [f_X3_read, if_neg c1]; rfl)
    refine vv_iret hC hR rfl dX3_read_20 (by omega) (by omega) ?_
    rw [hf]
    try dsimp only
    exact ⟨rfl, h_rd, h_village, hE⟩
