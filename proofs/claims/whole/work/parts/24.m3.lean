def f_X9_readHouse (x_size : Nat) (x_at : Nat) (x_readHouses : Nat) (text : Nat → Int32) (read : Nat → Int32) : Bool × Nat × Nat × (Nat → Int32) := (if (f_X9_takes x_size x_at text 9).1 = true then (if (f_X9_takes x_size ((f_X9_takes x_size x_at text 9).2) text 2).1 = true then (true, (f_X9_takes x_size ((f_X9_takes x_size x_at text 9).2) text 2).2, x_readHouses + 1, upd (upd read (1 + x_readHouses) (text (((f_X9_takes x_size x_at text 9).2) - 1) - 48)) (5 + x_readHouses) (text (((f_X9_takes x_size ((f_X9_takes x_size x_at text 9).2) text 2).2) - 1) - 48)) else (false, (f_X9_takes x_size ((f_X9_takes x_size x_at text 9).2) text 2).2, x_readHouses, read)) else (false, (f_X9_takes x_size x_at text 9).2, x_readHouses, read))
set_option maxHeartbeats 4000000 in
set_option maxRecDepth 100000 in
theorem c_X9_readHouse (g : GT) (w0 : Wd) (B : Nat → Nat) (hB : ∀ i j, i < 60 → j < 60 → B i = B j → i = j) (x_thrown : Int32) (x_houses : Nat) (x_people : Nat) (x_paths : Nat) (x_acts : Nat) (x_size : Nat) (x_at : Nat) (x_readHouses : Nat) (x_readPeople : Nat) (x_readPaths : Nat) (x_sights : Nat) (x_drawn : Int64) (text : Nat → Int32) (read : Nat → Int32) (hsz : x_size ≤ 96) (hat : x_at ≤ 96) (hrh : x_readHouses < 4) (h_m : w0 (B 0) = some (.inr (9, cM B (x_thrown, x_houses, x_people, x_paths, x_acts, x_size, x_at, x_readHouses, x_readPeople, x_readPaths, x_sights, x_drawn)))) (h_text : w0 (B 12) = some (.inl (g.2.2.1 0, 96, .inl text))) (h_read : w0 (B 21) = some (.inl (g.2.2.1 0, 43, .inl read))) : CT g yX9_readHouse cX9_readHouse 2 (some .boolean) 3 67 0 0 w0 [.ref (B 0)] (fun r w2 => r = some (.int (bI ((f_X9_readHouse x_size x_at x_readHouses text read).1))) ∧ w2 (B 0) = some (.inr (9, cM B (x_thrown, x_houses, x_people, x_paths, x_acts, x_size, (f_X9_readHouse x_size x_at x_readHouses text read).2.1, (f_X9_readHouse x_size x_at x_readHouses text read).2.2.1, x_readPeople, x_readPaths, x_sights, x_drawn))) ∧ w2 (B 21) = some (.inl (g.2.2.1 0, 43, .inl ((f_X9_readHouse x_size x_at x_readHouses text read).2.2.2))) ∧ wE (fun q => q = (B 0) ∨ q = (B 21)) w0 w2) := by
  refine CT.of (own := RX9) (by decide +kernel) rfl (Nat.le_of_ble_eq_true rfl) (fun X hC hR hI => ?_)
  show V g X 2 w0 0 0 0 [(0, .ref (B 0))] []
  have hE : wE (fun q => q = (B 0) ∨ q = (B 21)) w0 w0 := wE.refl
  refine vv_aload_n hC 0 dX9_readHouse_0 rfl rfl ?_
  refine vv_bipush (v := (9)) hC dX9_readHouse_1 (by decide) ?_
  refine vv_callV hC dX9_readHouse_3 md_X9_takes lk_m_X9_121 lk_i_X9_takes lk_s_X9_takes h_m rfl (As := [.int 9]) (rest := []) (c_X9_takes g w0 B hB x_thrown x_houses x_people x_paths x_acts x_size x_at x_readHouses x_readPeople x_readPaths x_sights x_drawn text 9 (by omega) (by omega) h_m h_text) rfl rfl (Nat.le_of_ble_eq_true rfl) ⟨by decide, by decide, by decide, by decide⟩ (fun r w9 hq => ?_)
  obtain ⟨rfl, t1, hs⟩ := hq
  obtain ⟨w1, rfl⟩ : ∃ z, z = w9 := ⟨_, rfl⟩
  have h_text := hs _ _ (fw_ao h_text h_m) h_text
  have h_read := hs _ _ (fw_ao h_read h_m) h_read
  have h_m := t1
  have hE := hE.trans (hs.mono (fun _ z => (Or.inl z)))
  show V g X 2 w1 0 0 6 [(0, .ref (B 0))] [.int (bI ((f_X9_takes x_size x_at text 9).1))]
  refine vv_if_ne hC 11 dX9_readHouse_6 (by decide) (fun c2 => ?_) (fun c2 => ?_)
  · have c2 : (f_X9_takes x_size x_at text 9).1 = true := bI_t c2
    have bc2 := takes_b c2
    refine vv_aload_n hC 0 dX9_readHouse_11 rfl rfl ?_
    refine vv_get (v := .ref (B 12)) hC fl_X9_32 dX9_readHouse_12 h_m rfl ?_
    refine vv_aload_n hC 0 dX9_readHouse_15 rfl rfl ?_
    refine vv_get (v := .int (nI ((f_X9_takes x_size x_at text 9).2))) hC fl_X9_98 dX9_readHouse_16 h_m rfl ?_
    refine vv_iconst (v := 1) hC dX9_readHouse_19 (by decide) ?_
    refine vv_isub hC dX9_readHouse_20 ?_
    refine vv_topi (nI (((f_X9_takes x_size x_at text 9).2) - 1)) (pk_sub (a := (f_X9_takes x_size x_at text 9).2) (b := 1) (by omega)) ?_
    refine vv_ialdn (t := ((f_X9_takes x_size x_at text 9).2) - 1) hC dX9_readHouse_21 h_text (by omega) (by decide) ?_
    refine vv_bipush (v := (48)) hC dX9_readHouse_22 (by decide) ?_
    refine vv_isub hC dX9_readHouse_24 ?_
    refine vv_istore_n (lv2 := [(1, .int (text (((f_X9_takes x_size x_at text 9).2) - 1) - 48)), (0, .ref (B 0))]) hC dX9_readHouse_25 rfl (by decide) rfl ?_
    refine vv_aload_n hC 1 dX9_readHouse_26 rfl rfl ?_
    refine vv_iconst (v := 2) hC dX9_readHouse_27 (by decide) ?_
    refine vv_callV hC dX9_readHouse_28 md_X9_takes lk_m_X9_121 lk_i_X9_takes lk_s_X9_takes h_m rfl (As := [.int 2]) (rest := []) (c_X9_takes g w1 B hB x_thrown x_houses x_people x_paths x_acts x_size ((f_X9_takes x_size x_at text 9).2) x_readHouses x_readPeople x_readPaths x_sights x_drawn text 2 (by omega) (by omega) h_m h_text) rfl rfl (Nat.le_of_ble_eq_true rfl) ⟨by decide, by decide, by decide, by decide⟩ (fun r w9 hq => ?_)
    obtain ⟨rfl, t1, hs⟩ := hq
    obtain ⟨w3, rfl⟩ : ∃ z, z = w9 := ⟨_, rfl⟩
    have h_text := hs _ _ (fw_ao h_text h_m) h_text
    have h_read := hs _ _ (fw_ao h_read h_m) h_read
    have h_m := t1
    have hE := hE.trans (hs.mono (fun _ z => (Or.inl z)))
    show V g X 2 w3 0 0 31 [(1, .int (text (((f_X9_takes x_size x_at text 9).2) - 1) - 48)), (0, .ref (B 0))] [.int (bI ((f_X9_takes x_size ((f_X9_takes x_size x_at text 9).2) text 2).1))]
    refine vv_if_ne hC 36 dX9_readHouse_31 (by decide) (fun c4 => ?_) (fun c4 => ?_)
    · have c4 : (f_X9_takes x_size ((f_X9_takes x_size x_at text 9).2) text 2).1 = true := bI_t c4
      have bc4 := takes_b c4
      refine vv_aload_n hC 1 dX9_readHouse_36 rfl rfl ?_
      refine vv_get (v := .ref (B 21)) hC fl_X9_44 dX9_readHouse_37 h_m rfl ?_
      refine vv_iconst (v := 1) hC dX9_readHouse_40 (by decide) ?_
      refine vv_aload_n hC 1 dX9_readHouse_41 rfl rfl ?_
      refine vv_get (v := .int (nI x_readHouses)) hC fl_X9_109 dX9_readHouse_42 h_m rfl ?_
      refine vv_iadd hC dX9_readHouse_45 ?_
      refine vv_topi (nI (1 + x_readHouses)) (nI_add 1 x_readHouses) ?_
      refine vv_iload_n hC 0 dX9_readHouse_46 rfl rfl ?_
      refine vv_iastn (t := 1 + x_readHouses) hC dX9_readHouse_47 h_read (by omega) (by decide) (fun w5 t1 hs => ?_)
      have t1 : w5 (B 21) = some (.inl (g.2.2.1 0, 43, .inl (upd read (1 + x_readHouses) (text (((f_X9_takes x_size x_at text 9).2) - 1) - 48)))) := t1
      have h_m := hs _ _ (fw_oa h_m h_read) h_m
      have h_text := hs _ _ (fw_inj hB (by decide) (by decide) (by decide)) h_text
      have h_read := t1
      have hE := hE.trans (hs.mono (fun _ z => (Or.inr z)))
      refine vv_aload_n hC 1 dX9_readHouse_48 rfl rfl ?_
      refine vv_get (v := .ref (B 21)) hC fl_X9_44 dX9_readHouse_49 h_m rfl ?_
      refine vv_iconst (v := 5) hC dX9_readHouse_52 (by decide) ?_
      refine vv_aload_n hC 1 dX9_readHouse_53 rfl rfl ?_
      refine vv_get (v := .int (nI x_readHouses)) hC fl_X9_109 dX9_readHouse_54 h_m rfl ?_
      refine vv_iadd hC dX9_readHouse_57 ?_
      refine vv_topi (nI (5 + x_readHouses)) (nI_add 5 x_readHouses) ?_
      refine vv_aload_n hC 1 dX9_readHouse_58 rfl rfl ?_
      refine vv_get (v := .ref (B 12)) hC fl_X9_32 dX9_readHouse_59 h_m rfl ?_
      refine vv_aload_n hC 1 dX9_readHouse_62 rfl rfl ?_
      refine vv_get (v := .int (nI ((f_X9_takes x_size ((f_X9_takes x_size x_at text 9).2) text 2).2))) hC fl_X9_98 dX9_readHouse_63 h_m rfl ?_
      refine vv_iconst (v := 1) hC dX9_readHouse_66 (by decide) ?_
      refine vv_isub hC dX9_readHouse_67 ?_
      refine vv_topi (nI (((f_X9_takes x_size ((f_X9_takes x_size x_at text 9).2) text 2).2) - 1)) (pk_sub (a := (f_X9_takes x_size ((f_X9_takes x_size x_at text 9).2) text 2).2) (b := 1) (by omega)) ?_
      refine vv_ialdn (t := ((f_X9_takes x_size ((f_X9_takes x_size x_at text 9).2) text 2).2) - 1) hC dX9_readHouse_68 h_text (by omega) (by decide) ?_
      refine vv_bipush (v := (48)) hC dX9_readHouse_69 (by decide) ?_
      refine vv_isub hC dX9_readHouse_71 ?_
      refine vv_iastn (t := 5 + x_readHouses) hC dX9_readHouse_72 h_read (by omega) (by decide) (fun w6 t1 hs => ?_)
      have t1 : w6 (B 21) = some (.inl (g.2.2.1 0, 43, .inl (upd (upd read (1 + x_readHouses) (text (((f_X9_takes x_size x_at text 9).2) - 1) - 48)) (5 + x_readHouses) (text (((f_X9_takes x_size ((f_X9_takes x_size x_at text 9).2) text 2).2) - 1) - 48)))) := t1
      have h_m := hs _ _ (fw_oa h_m h_read) h_m
      have h_text := hs _ _ (fw_inj hB (by decide) (by decide) (by decide)) h_text
      have h_read := t1
      have hE := hE.trans (hs.mono (fun _ z => (Or.inr z)))
      refine vv_aload_n hC 1 dX9_readHouse_73 rfl rfl ?_
      refine vv_dup hC dX9_readHouse_74 rfl ?_
      refine vv_get (v := .int (nI x_readHouses)) hC fl_X9_109 dX9_readHouse_75 h_m rfl ?_
      refine vv_iconst (v := 1) hC dX9_readHouse_78 (by decide) ?_
      refine vv_iadd hC dX9_readHouse_79 ?_
      refine vv_topi (nI (x_readHouses + 1)) (nI_add x_readHouses 1) ?_
      refine vv_put hC fp_X9_109 dX9_readHouse_80 h_m rfl rfl (Nat.le_of_ble_eq_true rfl) (fun w7 t1 hs => ?_)
      have t1 : w7 (B 0) = some (.inr (9, cM B (x_thrown, x_houses, x_people, x_paths, x_acts, x_size, (f_X9_takes x_size ((f_X9_takes x_size x_at text 9).2) text 2).2, x_readHouses + 1, x_readPeople, x_readPaths, x_sights, x_drawn))) := t1.trans (congrArg (fun z => some (Sum.inr (9, z))) (eM_readHouses _ _ _ _ _ _ _ _ _ _ _ _ _ _))
      have h_text := hs _ _ (fw_ao h_text h_m) h_text
      have h_read := hs _ _ (fw_ao h_read h_m) h_read
      have h_m := t1
      have hE := hE.trans (hs.mono (fun _ z => (Or.inl z)))
      refine vv_iconst (v := 1) hC dX9_readHouse_83 (by decide) ?_
      have hf : (f_X9_readHouse x_size x_at x_readHouses text read) = (true, (f_X9_takes x_size ((f_X9_takes x_size x_at text 9).2) text 2).2, x_readHouses + 1, upd (upd read (1 + x_readHouses) (text (((f_X9_takes x_size x_at text 9).2) - 1) - 48)) (5 + x_readHouses) (text (((f_X9_takes x_size ((f_X9_takes x_size x_at text 9).2) text 2).2) - 1) - 48)) := by first | (simp only [f_X9_readHouse, if_pos c2, if_pos c4]; done) | rfl | (simp only [f_X9_readHouse, if_pos c2, if_pos c4]; rfl)
      refine vv_zret hC hR rfl (by decide) dX9_readHouse_84 (by omega) (by omega) ?_
      rw [hf]
      try dsimp only
      exact ⟨rfl, h_m, h_read, hE⟩
    · have c4 : ¬ ((f_X9_takes x_size ((f_X9_takes x_size x_at text 9).2) text 2).1 = true) := bI_f c4
      refine vv_iconst (v := 0) hC dX9_readHouse_34 (by decide) ?_
      have hf : (f_X9_readHouse x_size x_at x_readHouses text read) = (false, (f_X9_takes x_size ((f_X9_takes x_size x_at text 9).2) text 2).2, x_readHouses, read) := by first | (simp only [f_X9_readHouse, if_pos c2, if_neg c4]; done) | rfl | (simp only [f_X9_readHouse, if_pos c2, if_neg c4]; rfl)
      refine vv_zret hC hR rfl (by decide) dX9_readHouse_35 (by omega) (by omega) ?_
      rw [hf]
      try dsimp only
      exact ⟨rfl, h_m, h_read, hE⟩
  · have c2 : ¬ ((f_X9_takes x_size x_at text 9).1 = true) := bI_f c2
    refine vv_iconst (v := 0) hC dX9_readHouse_9 (by decide) ?_
    have hf : (f_X9_readHouse x_size x_at x_readHouses text read) = (false, (f_X9_takes x_size x_at text 9).2, x_readHouses, read) := by first | (simp only [f_X9_readHouse, if_neg c2]; done) | rfl | (simp only [f_X9_readHouse, if_neg c2]; rfl)
    refine vv_zret hC hR rfl (by decide) dX9_readHouse_10 (by omega) (by omega) ?_
    rw [hf]
    try dsimp only
    exact ⟨rfl, h_m, h_read, hE⟩
def f_X9_readWay (x_size : Nat) (x_at : Nat) (x_readHouses : Nat) (x_readPaths : Nat) (text : Nat → Int32) (readPath : Nat → Int32) : Bool × Nat × Nat × (Nat → Int32) := (if f_X9_in ((f_X9_peek x_size x_at text).toInt64) 0 ((nI x_readHouses - 1).toInt64) = true then (if f_X9_hasWay x_readHouses readPath (tn (f_X9_peek x_size x_at text)) = true then (if f_X9_in ((f_X9_peek x_size (x_at + 1) text).toInt64) 0 ((nI x_readHouses - 1).toInt64) = true then (if tn (f_X9_peek x_size x_at text) = tn (f_X9_peek x_size (x_at + 1) text) then (false, x_at + 1, x_readPaths, readPath) else (if readPath (4 * (tn (f_X9_peek x_size x_at text)) + tn (f_X9_peek x_size (x_at + 1) text)) ≤ 0 then (if (f_X9_takes x_size (x_at + 1 + 1) text 1).1 = true then (true, (f_X9_takes x_size (x_at + 1 + 1) text 1).2, x_readPaths + 1, upd (upd readPath (4 * (tn (f_X9_peek x_size x_at text)) + tn (f_X9_peek x_size (x_at + 1) text)) ((1 + text (((f_X9_takes x_size (x_at + 1 + 1) text 1).2) - 1)) - 48)) (4 * (tn (f_X9_peek x_size (x_at + 1) text)) + tn (f_X9_peek x_size x_at text)) ((upd readPath (4 * (tn (f_X9_peek x_size x_at text)) + tn (f_X9_peek x_size (x_at + 1) text)) ((1 + text (((f_X9_takes x_size (x_at + 1 + 1) text 1).2) - 1)) - 48)) (4 * (tn (f_X9_peek x_size x_at text)) + tn (f_X9_peek x_size (x_at + 1) text)))) else (false, (f_X9_takes x_size (x_at + 1 + 1) text 1).2, x_readPaths, readPath)) else (false, x_at + 1, x_readPaths, readPath))) else (false, x_at + 1, x_readPaths, readPath)) else (false, x_at, x_readPaths, readPath)) else (false, x_at, x_readPaths, readPath))
set_option maxHeartbeats 4000000 in
set_option maxRecDepth 100000 in
theorem c_X9_readWay (g : GT) (w0 : Wd) (B : Nat → Nat) (hB : ∀ i j, i < 60 → j < 60 → B i = B j → i = j) (x_thrown : Int32) (x_houses : Nat) (x_people : Nat) (x_paths : Nat) (x_acts : Nat) (x_size : Nat) (x_at : Nat) (x_readHouses : Nat) (x_readPeople : Nat) (x_readPaths : Nat) (x_sights : Nat) (x_drawn : Int64) (text : Nat → Int32) (readPath : Nat → Int32) (hsz : x_size ≤ 96) (hat : x_at ≤ 96) (hrh : x_readHouses ≤ 4) (h_m : w0 (B 0) = some (.inr (9, cM B (x_thrown, x_houses, x_people, x_paths, x_acts, x_size, x_at, x_readHouses, x_readPeople, x_readPaths, x_sights, x_drawn)))) (h_text : w0 (B 12) = some (.inl (g.2.2.1 0, 96, .inl text))) (h_readPath : w0 (B 18) = some (.inl (g.2.2.1 0, 16, .inl readPath))) : CT g yX9_readWay cX9_readWay 3 (some .boolean) 3 67 0 0 w0 [.ref (B 0)] (fun r w2 => r = some (.int (bI ((f_X9_readWay x_size x_at x_readHouses x_readPaths text readPath).1))) ∧ w2 (B 0) = some (.inr (9, cM B (x_thrown, x_houses, x_people, x_paths, x_acts, x_size, (f_X9_readWay x_size x_at x_readHouses x_readPaths text readPath).2.1, x_readHouses, x_readPeople, (f_X9_readWay x_size x_at x_readHouses x_readPaths text readPath).2.2.1, x_sights, x_drawn))) ∧ w2 (B 18) = some (.inl (g.2.2.1 0, 16, .inl ((f_X9_readWay x_size x_at x_readHouses x_readPaths text readPath).2.2.2))) ∧ wE (fun q => q = (B 0) ∨ q = (B 18)) w0 w2) := by
  refine CT.of (own := RX9) (by decide +kernel) rfl (Nat.le_of_ble_eq_true rfl) (fun X hC hR hI => ?_)
  show V g X 3 w0 0 0 0 [(0, .ref (B 0))] []
  have hE : wE (fun q => q = (B 0) ∨ q = (B 18)) w0 w0 := wE.refl
  refine vv_aload_n hC 0 dX9_readWay_0 rfl rfl ?_
  refine vv_callV hC dX9_readWay_1 md_X9_peek lk_m_X9_105 lk_i_X9_peek lk_s_X9_peek h_m rfl (As := []) (rest := []) (c_X9_peek g w0 B hB x_thrown x_houses x_people x_paths x_acts x_size x_at x_readHouses x_readPeople x_readPaths x_sights x_drawn text (by omega) (by omega) h_m h_text) rfl rfl (Nat.le_of_ble_eq_true rfl) ⟨by decide, by decide, by decide, by decide⟩ (fun r w9 hq => ?_)
  obtain ⟨rfl, rfl⟩ := hq
  show V g X 3 w0 0 0 4 [(0, .ref (B 0))] [.int (f_X9_peek x_size x_at text)]
  refine vv_istore_n (lv2 := [(1, .int (f_X9_peek x_size x_at text)), (0, .ref (B 0))]) hC dX9_readWay_4 rfl (by decide) rfl ?_
  refine vv_iload_n hC 0 dX9_readWay_5 rfl rfl ?_
  refine vv_i2l hC dX9_readWay_6 ?_
  refine vv_lconst (v := 0) hC dX9_readWay_7 (by decide) ?_
  refine vv_aload_n hC 1 dX9_readWay_8 rfl rfl ?_
  refine vv_get (v := .int (nI x_readHouses)) hC fl_X9_109 dX9_readWay_9 h_m rfl ?_
  refine vv_iconst (v := 1) hC dX9_readWay_12 (by decide) ?_
  refine vv_isub hC dX9_readWay_13 ?_
  refine vv_i2l hC dX9_readWay_14 ?_
  refine vv_callS hC dX9_readWay_15 md_X9_in lk_m_X9_76 lk_t_X9_in (As := [.long ((f_X9_peek x_size x_at text).toInt64), .long 0, .long ((nI x_readHouses - 1).toInt64)]) (rest := []) (c_X9_in g w0 ((f_X9_peek x_size x_at text).toInt64) 0 ((nI x_readHouses - 1).toInt64)) rfl rfl (Nat.le_of_ble_eq_true rfl) ⟨by decide, by decide, by decide, by decide⟩ (fun r w9 hq => ?_)
  obtain ⟨rfl, rfl⟩ := hq
  show V g X 3 w0 0 0 18 [(1, .int (f_X9_peek x_size x_at text)), (0, .ref (B 0))] [.int (bI (f_X9_in ((f_X9_peek x_size x_at text).toInt64) 0 ((nI x_readHouses - 1).toInt64)))]
  refine vv_if_eq hC 29 dX9_readWay_18 (by decide) (fun c1 => ?_) (fun c1 => ?_)
  · have c1 : ¬ (f_X9_in ((f_X9_peek x_size x_at text).toInt64) 0 ((nI x_readHouses - 1).toInt64) = true) := bI_f c1
    refine vv_iconst (v := 0) hC dX9_readWay_29 (by decide) ?_
    have hf : (f_X9_readWay x_size x_at x_readHouses x_readPaths text readPath) = (false, x_at, x_readPaths, readPath) := by first | (simp only [f_X9_readWay, if_neg c1]; done) | rfl | (simp only [f_X9_readWay, if_neg c1]; rfl)
    refine vv_zret hC hR rfl (by decide) dX9_readWay_30 (by omega) (by omega) ?_
    rw [hf]
    try dsimp only
    exact ⟨rfl, h_m, h_readPath, hE⟩
  · have c1 : f_X9_in ((f_X9_peek x_size x_at text).toInt64) 0 ((nI x_readHouses - 1).toInt64) = true := bI_t c1
    have bc1 := inN_b (by omega) c1
    have bc1 := peek_in c1
    refine vv_aload_n hC 1 dX9_readWay_21 rfl rfl ?_
    refine vv_iload_n hC 0 dX9_readWay_22 rfl rfl ?_
    refine vv_topi (nI (tn (f_X9_peek x_size x_at text))) (inN_e (by omega) c1) ?_
    refine vv_callV hC dX9_readWay_23 md_X9_hasWay lk_m_X9_112 lk_i_X9_hasWay lk_s_X9_hasWay h_m rfl (As := [.int (nI (tn (f_X9_peek x_size x_at text)))]) (rest := []) (c_X9_hasWay g w0 B hB x_thrown x_houses x_people x_paths x_acts x_size x_at x_readHouses x_readPeople x_readPaths x_sights x_drawn readPath (tn (f_X9_peek x_size x_at text)) (by omega) (by omega) h_m h_readPath) rfl rfl (Nat.le_of_ble_eq_true rfl) ⟨by decide, by decide, by decide, by decide⟩ (fun r w9 hq => ?_)
    obtain ⟨rfl, rfl⟩ := hq
    show V g X 3 w0 0 0 26 [(1, .int (f_X9_peek x_size x_at text)), (0, .ref (B 0))] [.int (bI (f_X9_hasWay x_readHouses readPath (tn (f_X9_peek x_size x_at text))))]
    refine vv_if_ne hC 31 dX9_readWay_26 (by decide) (fun c2 => ?_) (fun c2 => ?_)
    · have c2 : f_X9_hasWay x_readHouses readPath (tn (f_X9_peek x_size x_at text)) = true := bI_t c2
      refine vv_aload_n hC 1 dX9_readWay_31 rfl rfl ?_
      refine vv_dup hC dX9_readWay_32 rfl ?_
      refine vv_get (v := .int (nI x_at)) hC fl_X9_98 dX9_readWay_33 h_m rfl ?_
      refine vv_iconst (v := 1) hC dX9_readWay_36 (by decide) ?_
      refine vv_iadd hC dX9_readWay_37 ?_
      refine vv_topi (nI (x_at + 1)) (nI_add x_at 1) ?_
      refine vv_put hC fp_X9_98 dX9_readWay_38 h_m rfl rfl (Nat.le_of_ble_eq_true rfl) (fun w3 t1 hs => ?_)
      have t1 : w3 (B 0) = some (.inr (9, cM B (x_thrown, x_houses, x_people, x_paths, x_acts, x_size, x_at + 1, x_readHouses, x_readPeople, x_readPaths, x_sights, x_drawn))) := t1.trans (congrArg (fun z => some (Sum.inr (9, z))) (eM_at _ _ _ _ _ _ _ _ _ _ _ _ _ _))
      have h_text := hs _ _ (fw_ao h_text h_m) h_text
      have h_readPath := hs _ _ (fw_ao h_readPath h_m) h_readPath
      have h_m := t1
      have hE := hE.trans (hs.mono (fun _ z => (Or.inl z)))
      refine vv_aload_n hC 1 dX9_readWay_41 rfl rfl ?_
      refine vv_callV hC dX9_readWay_42 md_X9_peek lk_m_X9_105 lk_i_X9_peek lk_s_X9_peek h_m rfl (As := []) (rest := []) (c_X9_peek g w3 B hB x_thrown x_houses x_people x_paths x_acts x_size (x_at + 1) x_readHouses x_readPeople x_readPaths x_sights x_drawn text (by omega) (by omega) h_m h_text) rfl rfl (Nat.le_of_ble_eq_true rfl) ⟨by decide, by decide, by decide, by decide⟩ (fun r w9 hq => ?_)
      obtain ⟨rfl, rfl⟩ := hq
      show V g X 3 w3 0 0 45 [(1, .int (f_X9_peek x_size x_at text)), (0, .ref (B 0))] [.int (f_X9_peek x_size (x_at + 1) text)]
      refine vv_istore_n (lv2 := [(2, .int (f_X9_peek x_size (x_at + 1) text)), (1, .int (f_X9_peek x_size x_at text)), (0, .ref (B 0))]) hC dX9_readWay_45 rfl (by decide) rfl ?_
      refine vv_iload_n hC 0 dX9_readWay_46 rfl rfl ?_
      refine vv_i2l hC dX9_readWay_47 ?_
      refine vv_lconst (v := 0) hC dX9_readWay_48 (by decide) ?_
      refine vv_aload_n hC 2 dX9_readWay_49 rfl rfl ?_
      refine vv_get (v := .int (nI x_readHouses)) hC fl_X9_109 dX9_readWay_50 h_m rfl ?_
      refine vv_iconst (v := 1) hC dX9_readWay_53 (by decide) ?_
      refine vv_isub hC dX9_readWay_54 ?_
      refine vv_i2l hC dX9_readWay_55 ?_
      refine vv_callS hC dX9_readWay_56 md_X9_in lk_m_X9_76 lk_t_X9_in (As := [.long ((f_X9_peek x_size (x_at + 1) text).toInt64), .long 0, .long ((nI x_readHouses - 1).toInt64)]) (rest := []) (c_X9_in g w3 ((f_X9_peek x_size (x_at + 1) text).toInt64) 0 ((nI x_readHouses - 1).toInt64)) rfl rfl (Nat.le_of_ble_eq_true rfl) ⟨by decide, by decide, by decide, by decide⟩ (fun r w9 hq => ?_)
      obtain ⟨rfl, rfl⟩ := hq
      show V g X 3 w3 0 0 59 [(2, .int (f_X9_peek x_size (x_at + 1) text)), (1, .int (f_X9_peek x_size x_at text)), (0, .ref (B 0))] [.int (bI (f_X9_in ((f_X9_peek x_size (x_at + 1) text).toInt64) 0 ((nI x_readHouses - 1).toInt64)))]
      refine vv_if_eq hC 80 dX9_readWay_59 (by decide) (fun c4 => ?_) (fun c4 => ?_)
      · have c4 : ¬ (f_X9_in ((f_X9_peek x_size (x_at + 1) text).toInt64) 0 ((nI x_readHouses - 1).toInt64) = true) := bI_f c4
        refine vv_iconst (v := 0) hC dX9_readWay_80 (by decide) ?_
        have hf : (f_X9_readWay x_size x_at x_readHouses x_readPaths text readPath) = (false, x_at + 1, x_readPaths, readPath) := by first | (simp only [f_X9_readWay, if_pos c1, if_pos c2, if_neg c4]; done) | rfl | (simp only [f_X9_readWay, if_pos c1, if_pos c2, if_neg c4]; rfl)
        refine vv_zret hC hR rfl (by decide) dX9_readWay_81 (by omega) (by omega) ?_
        rw [hf]
        try dsimp only
        exact ⟨rfl, h_m, h_readPath, hE⟩
      · have c4 : f_X9_in ((f_X9_peek x_size (x_at + 1) text).toInt64) 0 ((nI x_readHouses - 1).toInt64) = true := bI_t c4
        have bc4 := inN_b (by omega) c4
        have bc4 := peek_in c4
        refine vv_iload_n hC 1 dX9_readWay_62 rfl rfl ?_
        refine vv_topi (nI (tn (f_X9_peek x_size x_at text))) (inN_e (by omega) c1) ?_
        refine vv_iload_n hC 0 dX9_readWay_63 rfl rfl ?_
        refine vv_topi (nI (tn (f_X9_peek x_size (x_at + 1) text))) (inN_e (by omega) c4) ?_
        refine vv_icmp_eq hC 80 dX9_readWay_64 (by decide) (fun c5 => ?_) (fun c5 => ?_)
        · have c5 : tn (f_X9_peek x_size x_at text) = tn (f_X9_peek x_size (x_at + 1) text) := (nI_eq_ (a := tn (f_X9_peek x_size x_at text)) (b := tn (f_X9_peek x_size (x_at + 1) text)) (by omega) (by omega)).mp c5
          refine vv_iconst (v := 0) hC dX9_readWay_80 (by decide) ?_
          have hf : (f_X9_readWay x_size x_at x_readHouses x_readPaths text readPath) = (false, x_at + 1, x_readPaths, readPath) := by first | (simp only [f_X9_readWay, if_pos c1, if_pos c2, if_pos c4, if_pos c5]; done) | rfl | (simp only [f_X9_readWay, if_pos c1, if_pos c2, if_pos c4, if_pos c5]; rfl)
          refine vv_zret hC hR rfl (by decide) dX9_readWay_81 (by omega) (by omega) ?_
          rw [hf]
          try dsimp only
          exact ⟨rfl, h_m, h_readPath, hE⟩
        · have c5 : ¬ (tn (f_X9_peek x_size x_at text) = tn (f_X9_peek x_size (x_at + 1) text)) := fun z => c5 ((nI_eq_ (a := tn (f_X9_peek x_size x_at text)) (b := tn (f_X9_peek x_size (x_at + 1) text)) (by omega) (by omega)).mpr z)
          refine vv_aload_n hC 2 dX9_readWay_67 rfl rfl ?_
          refine vv_get (v := .ref (B 18)) hC fl_X9_35 dX9_readWay_68 h_m rfl ?_
          refine vv_iconst (v := 4) hC dX9_readWay_71 (by decide) ?_
          refine vv_iload_n hC 1 dX9_readWay_72 rfl rfl ?_
          refine vv_topi (nI (tn (f_X9_peek x_size x_at text))) (inN_e (by omega) c1) ?_
          refine vv_imul hC dX9_readWay_73 ?_
          refine vv_topi (nI (4 * (tn (f_X9_peek x_size x_at text)))) (pk_mul 4 (tn (f_X9_peek x_size x_at text))) ?_
          refine vv_iload_n hC 0 dX9_readWay_74 rfl rfl ?_
          refine vv_topi (nI (tn (f_X9_peek x_size (x_at + 1) text))) (inN_e (by omega) c4) ?_
          refine vv_iadd hC dX9_readWay_75 ?_
          refine vv_topi (nI (4 * (tn (f_X9_peek x_size x_at text)) + tn (f_X9_peek x_size (x_at + 1) text))) (nI_add (4 * (tn (f_X9_peek x_size x_at text))) (tn (f_X9_peek x_size (x_at + 1) text))) ?_
          refine vv_ialdn (t := 4 * (tn (f_X9_peek x_size x_at text)) + tn (f_X9_peek x_size (x_at + 1) text)) hC dX9_readWay_76 h_readPath (by omega) (by decide) ?_
          refine vv_if_le hC 82 dX9_readWay_77 (by decide) (fun c6 => ?_) (fun c6 => ?_)
          · have c6 : readPath (4 * (tn (f_X9_peek x_size x_at text)) + tn (f_X9_peek x_size (x_at + 1) text)) ≤ 0 := c6
            refine vv_aload_n hC 2 dX9_readWay_82 rfl rfl ?_
            refine vv_dup hC dX9_readWay_83 rfl ?_
            refine vv_get (v := .int (nI (x_at + 1))) hC fl_X9_98 dX9_readWay_84 h_m rfl ?_
            refine vv_iconst (v := 1) hC dX9_readWay_87 (by decide) ?_
            refine vv_iadd hC dX9_readWay_88 ?_
            refine vv_topi (nI (x_at + 1 + 1)) (nI_add (x_at + 1) 1) ?_
            refine vv_put hC fp_X9_98 dX9_readWay_89 h_m rfl rfl (Nat.le_of_ble_eq_true rfl) (fun w7 t1 hs => ?_)
            have t1 : w7 (B 0) = some (.inr (9, cM B (x_thrown, x_houses, x_people, x_paths, x_acts, x_size, x_at + 1 + 1, x_readHouses, x_readPeople, x_readPaths, x_sights, x_drawn))) := t1.trans (congrArg (fun z => some (Sum.inr (9, z))) (eM_at _ _ _ _ _ _ _ _ _ _ _ _ _ _))
            have h_text := hs _ _ (fw_ao h_text h_m) h_text
            have h_readPath := hs _ _ (fw_ao h_readPath h_m) h_readPath
            have h_m := t1
            have hE := hE.trans (hs.mono (fun _ z => (Or.inl z)))
            refine vv_aload_n hC 2 dX9_readWay_92 rfl rfl ?_
            refine vv_iconst (v := 1) hC dX9_readWay_93 (by decide) ?_
            refine vv_callV hC dX9_readWay_94 md_X9_takes lk_m_X9_121 lk_i_X9_takes lk_s_X9_takes h_m rfl (As := [.int 1]) (rest := []) (c_X9_takes g w7 B hB x_thrown x_houses x_people x_paths x_acts x_size (x_at + 1 + 1) x_readHouses x_readPeople x_readPaths x_sights x_drawn text 1 (by omega) (by omega) h_m h_text) rfl rfl (Nat.le_of_ble_eq_true rfl) ⟨by decide, by decide, by decide, by decide⟩ (fun r w9 hq => ?_)
            obtain ⟨rfl, t1, hs⟩ := hq
            obtain ⟨w8, rfl⟩ : ∃ z, z = w9 := ⟨_, rfl⟩
            have h_text := hs _ _ (fw_ao h_text h_m) h_text
            have h_readPath := hs _ _ (fw_ao h_readPath h_m) h_readPath
            have h_m := t1
            have hE := hE.trans (hs.mono (fun _ z => (Or.inl z)))
            show V g X 3 w8 0 0 97 [(2, .int (f_X9_peek x_size (x_at + 1) text)), (1, .int (f_X9_peek x_size x_at text)), (0, .ref (B 0))] [.int (bI ((f_X9_takes x_size (x_at + 1 + 1) text 1).1))]
            refine vv_if_ne hC 102 dX9_readWay_97 (by decide) (fun c9 => ?_) (fun c9 => ?_)
            · have c9 : (f_X9_takes x_size (x_at + 1 + 1) text 1).1 = true := bI_t c9
              have bc9 := takes_b c9
              refine vv_aload_n hC 2 dX9_readWay_102 rfl rfl ?_
              refine vv_get (v := .ref (B 18)) hC fl_X9_35 dX9_readWay_103 h_m rfl ?_
              refine vv_iconst (v := 4) hC dX9_readWay_106 (by decide) ?_
              refine vv_iload_n hC 1 dX9_readWay_107 rfl rfl ?_
              refine vv_topi (nI (tn (f_X9_peek x_size x_at text))) (inN_e (by omega) c1) ?_
              refine vv_imul hC dX9_readWay_108 ?_
              refine vv_topi (nI (4 * (tn (f_X9_peek x_size x_at text)))) (pk_mul 4 (tn (f_X9_peek x_size x_at text))) ?_
              refine vv_iload_n hC 0 dX9_readWay_109 rfl rfl ?_
              refine vv_topi (nI (tn (f_X9_peek x_size (x_at + 1) text))) (inN_e (by omega) c4) ?_
              refine vv_iadd hC dX9_readWay_110 ?_
              refine vv_topi (nI (4 * (tn (f_X9_peek x_size x_at text)) + tn (f_X9_peek x_size (x_at + 1) text))) (nI_add (4 * (tn (f_X9_peek x_size x_at text))) (tn (f_X9_peek x_size (x_at + 1) text))) ?_
              refine vv_iconst (v := 1) hC dX9_readWay_111 (by decide) ?_
              refine vv_aload_n hC 2 dX9_readWay_112 rfl rfl ?_
              refine vv_get (v := .ref (B 12)) hC fl_X9_32 dX9_readWay_113 h_m rfl ?_
              refine vv_aload_n hC 2 dX9_readWay_116 rfl rfl ?_
              refine vv_get (v := .int (nI ((f_X9_takes x_size (x_at + 1 + 1) text 1).2))) hC fl_X9_98 dX9_readWay_117 h_m rfl ?_
              refine vv_iconst (v := 1) hC dX9_readWay_120 (by decide) ?_
              refine vv_isub hC dX9_readWay_121 ?_
              refine vv_topi (nI (((f_X9_takes x_size (x_at + 1 + 1) text 1).2) - 1)) (pk_sub (a := (f_X9_takes x_size (x_at + 1 + 1) text 1).2) (b := 1) (by omega)) ?_
              refine vv_ialdn (t := ((f_X9_takes x_size (x_at + 1 + 1) text 1).2) - 1) hC dX9_readWay_122 h_text (by omega) (by decide) ?_
              refine vv_iadd hC dX9_readWay_123 ?_
              refine vv_bipush (v := (48)) hC dX9_readWay_124 (by decide) ?_
              refine vv_isub hC dX9_readWay_126 ?_
              refine vv_iastn (t := 4 * (tn (f_X9_peek x_size x_at text)) + tn (f_X9_peek x_size (x_at + 1) text)) hC dX9_readWay_127 h_readPath (by omega) (by decide) (fun w10 t1 hs => ?_)
              have t1 : w10 (B 18) = some (.inl (g.2.2.1 0, 16, .inl (upd readPath (4 * (tn (f_X9_peek x_size x_at text)) + tn (f_X9_peek x_size (x_at + 1) text)) ((1 + text (((f_X9_takes x_size (x_at + 1 + 1) text 1).2) - 1)) - 48)))) := t1
              have h_m := hs _ _ (fw_oa h_m h_readPath) h_m
              have h_text := hs _ _ (fw_inj hB (by decide) (by decide) (by decide)) h_text
              have h_readPath := t1
              have hE := hE.trans (hs.mono (fun _ z => (Or.inr z)))
              refine vv_aload_n hC 2 dX9_readWay_128 rfl rfl ?_
              refine vv_get (v := .ref (B 18)) hC fl_X9_35 dX9_readWay_129 h_m rfl ?_
              refine vv_iconst (v := 4) hC dX9_readWay_132 (by decide) ?_
              refine vv_iload_n hC 0 dX9_readWay_133 rfl rfl ?_
              refine vv_topi (nI (tn (f_X9_peek x_size (x_at + 1) text))) (inN_e (by omega) c4) ?_
              refine vv_imul hC dX9_readWay_134 ?_
              refine vv_topi (nI (4 * (tn (f_X9_peek x_size (x_at + 1) text)))) (pk_mul 4 (tn (f_X9_peek x_size (x_at + 1) text))) ?_
              refine vv_iload_n hC 1 dX9_readWay_135 rfl rfl ?_
              refine vv_topi (nI (tn (f_X9_peek x_size x_at text))) (inN_e (by omega) c1) ?_
              refine vv_iadd hC dX9_readWay_136 ?_
              refine vv_topi (nI (4 * (tn (f_X9_peek x_size (x_at + 1) text)) + tn (f_X9_peek x_size x_at text))) (nI_add (4 * (tn (f_X9_peek x_size (x_at + 1) text))) (tn (f_X9_peek x_size x_at text))) ?_
              refine vv_aload_n hC 2 dX9_readWay_137 rfl rfl ?_
              refine vv_get (v := .ref (B 18)) hC fl_X9_35 dX9_readWay_138 h_m rfl ?_
              refine vv_iconst (v := 4) hC dX9_readWay_141 (by decide) ?_
              refine vv_iload_n hC 1 dX9_readWay_142 rfl rfl ?_
              refine vv_topi (nI (tn (f_X9_peek x_size x_at text))) (inN_e (by omega) c1) ?_
              refine vv_imul hC dX9_readWay_143 ?_
              refine vv_topi (nI (4 * (tn (f_X9_peek x_size x_at text)))) (pk_mul 4 (tn (f_X9_peek x_size x_at text))) ?_
              refine vv_iload_n hC 0 dX9_readWay_144 rfl rfl ?_
              refine vv_topi (nI (tn (f_X9_peek x_size (x_at + 1) text))) (inN_e (by omega) c4) ?_
              refine vv_iadd hC dX9_readWay_145 ?_
              refine vv_topi (nI (4 * (tn (f_X9_peek x_size x_at text)) + tn (f_X9_peek x_size (x_at + 1) text))) (nI_add (4 * (tn (f_X9_peek x_size x_at text))) (tn (f_X9_peek x_size (x_at + 1) text))) ?_
              refine vv_ialdn (t := 4 * (tn (f_X9_peek x_size x_at text)) + tn (f_X9_peek x_size (x_at + 1) text)) hC dX9_readWay_146 h_readPath (by omega) (by decide) ?_
              refine vv_iastn (t := 4 * (tn (f_X9_peek x_size (x_at + 1) text)) + tn (f_X9_peek x_size x_at text)) hC dX9_readWay_147 h_readPath (by omega) (by decide) (fun w11 t1 hs => ?_)
              have t1 : w11 (B 18) = some (.inl (g.2.2.1 0, 16, .inl (upd (upd readPath (4 * (tn (f_X9_peek x_size x_at text)) + tn (f_X9_peek x_size (x_at + 1) text)) ((1 + text (((f_X9_takes x_size (x_at + 1 + 1) text 1).2) - 1)) - 48)) (4 * (tn (f_X9_peek x_size (x_at + 1) text)) + tn (f_X9_peek x_size x_at text)) ((upd readPath (4 * (tn (f_X9_peek x_size x_at text)) + tn (f_X9_peek x_size (x_at + 1) text)) ((1 + text (((f_X9_takes x_size (x_at + 1 + 1) text 1).2) - 1)) - 48)) (4 * (tn (f_X9_peek x_size x_at text)) + tn (f_X9_peek x_size (x_at + 1) text)))))) := t1
              have h_m := hs _ _ (fw_oa h_m h_readPath) h_m
              have h_text := hs _ _ (fw_inj hB (by decide) (by decide) (by decide)) h_text
              have h_readPath := t1
              have hE := hE.trans (hs.mono (fun _ z => (Or.inr z)))
              refine vv_aload_n hC 2 dX9_readWay_148 rfl rfl ?_
              refine vv_dup hC dX9_readWay_149 rfl ?_
              refine vv_get (v := .int (nI x_readPaths)) hC fl_X9_124 dX9_readWay_150 h_m rfl ?_
              refine vv_iconst (v := 1) hC dX9_readWay_153 (by decide) ?_
              refine vv_iadd hC dX9_readWay_154 ?_
              refine vv_topi (nI (x_readPaths + 1)) (nI_add x_readPaths 1) ?_
              refine vv_put hC fp_X9_124 dX9_readWay_155 h_m rfl rfl (Nat.le_of_ble_eq_true rfl) (fun w12 t1 hs => ?_)
              have t1 : w12 (B 0) = some (.inr (9, cM B (x_thrown, x_houses, x_people, x_paths, x_acts, x_size, (f_X9_takes x_size (x_at + 1 + 1) text 1).2, x_readHouses, x_readPeople, x_readPaths + 1, x_sights, x_drawn))) := t1.trans (congrArg (fun z => some (Sum.inr (9, z))) (eM_readPaths _ _ _ _ _ _ _ _ _ _ _ _ _ _))
              have h_text := hs _ _ (fw_ao h_text h_m) h_text
              have h_readPath := hs _ _ (fw_ao h_readPath h_m) h_readPath
              have h_m := t1
              have hE := hE.trans (hs.mono (fun _ z => (Or.inl z)))
              refine vv_iconst (v := 1) hC dX9_readWay_158 (by decide) ?_
              have hf : (f_X9_readWay x_size x_at x_readHouses x_readPaths text readPath) = (true, (f_X9_takes x_size (x_at + 1 + 1) text 1).2, x_readPaths + 1, upd (upd readPath (4 * (tn (f_X9_peek x_size x_at text)) + tn (f_X9_peek x_size (x_at + 1) text)) ((1 + text (((f_X9_takes x_size (x_at + 1 + 1) text 1).2) - 1)) - 48)) (4 * (tn (f_X9_peek x_size (x_at + 1) text)) + tn (f_X9_peek x_size x_at text)) ((upd readPath (4 * (tn (f_X9_peek x_size x_at text)) + tn (f_X9_peek x_size (x_at + 1) text)) ((1 + text (((f_X9_takes x_size (x_at + 1 + 1) text 1).2) - 1)) - 48)) (4 * (tn (f_X9_peek x_size x_at text)) + tn (f_X9_peek x_size (x_at + 1) text)))) := by first | (simp only [f_X9_readWay, if_pos c1, if_pos c2, if_pos c4, if_neg c5, if_pos c6, if_pos c9]; done) | rfl | (simp only [f_X9_readWay, if_pos c1, if_pos c2, if_pos c4, if_neg c5, if_pos c6, if_pos c9]; rfl)
              refine vv_zret hC hR rfl (by decide) dX9_readWay_159 (by omega) (by omega) ?_
              rw [hf]
              try dsimp only
              exact ⟨rfl, h_m, h_readPath, hE⟩
            · have c9 : ¬ ((f_X9_takes x_size (x_at + 1 + 1) text 1).1 = true) := bI_f c9
              refine vv_iconst (v := 0) hC dX9_readWay_100 (by decide) ?_
              have hf : (f_X9_readWay x_size x_at x_readHouses x_readPaths text readPath) = (false, (f_X9_takes x_size (x_at + 1 + 1) text 1).2, x_readPaths, readPath) := by first | (simp only [f_X9_readWay, if_pos c1, if_pos c2, if_pos c4, if_neg c5, if_pos c6, if_neg c9]; done) | rfl | (simp only [f_X9_readWay, if_pos c1, if_pos c2, if_pos c4, if_neg c5, if_pos c6, if_neg c9]; rfl)
              refine vv_zret hC hR rfl (by decide) dX9_readWay_101 (by omega) (by omega) ?_
              rw [hf]
              try dsimp only
              exact ⟨rfl, h_m, h_readPath, hE⟩
          · have c6 : ¬ (readPath (4 * (tn (f_X9_peek x_size x_at text)) + tn (f_X9_peek x_size (x_at + 1) text)) ≤ 0) := c6
            refine vv_iconst (v := 0) hC dX9_readWay_80 (by decide) ?_
            have hf : (f_X9_readWay x_size x_at x_readHouses x_readPaths text readPath) = (false, x_at + 1, x_readPaths, readPath) := by first | (simp only [f_X9_readWay, if_pos c1, if_pos c2, if_pos c4, if_neg c5, if_neg c6]; done) | rfl | (simp only [f_X9_readWay, if_pos c1, if_pos c2, if_pos c4, if_neg c5, if_neg c6]; rfl)
            refine vv_zret hC hR rfl (by decide) dX9_readWay_81 (by omega) (by omega) ?_
            rw [hf]
            try dsimp only
            exact ⟨rfl, h_m, h_readPath, hE⟩
    · have c2 : ¬ (f_X9_hasWay x_readHouses readPath (tn (f_X9_peek x_size x_at text)) = true) := bI_f c2
      refine vv_iconst (v := 0) hC dX9_readWay_29 (by decide) ?_
      have hf : (f_X9_readWay x_size x_at x_readHouses x_readPaths text readPath) = (false, x_at, x_readPaths, readPath) := by first | (simp only [f_X9_readWay, if_pos c1, if_neg c2]; done) | rfl | (simp only [f_X9_readWay, if_pos c1, if_neg c2]; rfl)
      refine vv_zret hC hR rfl (by decide) dX9_readWay_30 (by omega) (by omega) ?_
      rw [hf]
      try dsimp only
      exact ⟨rfl, h_m, h_readPath, hE⟩
def f_X9_readPerson (x_size : Nat) (x_at : Nat) (x_readHouses : Nat) (x_readPeople : Nat) (text : Nat → Int32) (readHome : Nat → Int32) (read : Nat → Int32) : Bool × Nat × Nat × (Nat → Int32) × (Nat → Int32) := (if (f_X9_takes x_size x_at text (nI x_readHouses - 1)).1 = true then (if (f_X9_takes x_size ((f_X9_takes x_size x_at text (nI x_readHouses - 1)).2) text 1).1 = true then (true, (f_X9_takes x_size ((f_X9_takes x_size x_at text (nI x_readHouses - 1)).2) text 1).2, x_readPeople + 1, upd readHome x_readPeople (text (((f_X9_takes x_size x_at text (nI x_readHouses - 1)).2) - 1) - 48), upd (upd read (13 + 5 * x_readPeople) (text (((f_X9_takes x_size ((f_X9_takes x_size x_at text (nI x_readHouses - 1)).2) text 1).2) - 1) - 48)) (13 + 5 * x_readPeople + 4) (-9)) else (false, (f_X9_takes x_size ((f_X9_takes x_size x_at text (nI x_readHouses - 1)).2) text 1).2, x_readPeople, readHome, read)) else (false, (f_X9_takes x_size x_at text (nI x_readHouses - 1)).2, x_readPeople, readHome, read))
set_option maxHeartbeats 4000000 in
set_option maxRecDepth 100000 in
theorem c_X9_readPerson (g : GT) (w0 : Wd) (B : Nat → Nat) (hB : ∀ i j, i < 60 → j < 60 → B i = B j → i = j) (x_thrown : Int32) (x_houses : Nat) (x_people : Nat) (x_paths : Nat) (x_acts : Nat) (x_size : Nat) (x_at : Nat) (x_readHouses : Nat) (x_readPeople : Nat) (x_readPaths : Nat) (x_sights : Nat) (x_drawn : Int64) (text : Nat → Int32) (readHome : Nat → Int32) (read : Nat → Int32) (hsz : x_size ≤ 96) (hat : x_at ≤ 96) (hrp : x_readPeople < 6) (h_m : w0 (B 0) = some (.inr (9, cM B (x_thrown, x_houses, x_people, x_paths, x_acts, x_size, x_at, x_readHouses, x_readPeople, x_readPaths, x_sights, x_drawn)))) (h_text : w0 (B 12) = some (.inl (g.2.2.1 0, 96, .inl text))) (h_readHome : w0 (B 19) = some (.inl (g.2.2.1 0, 6, .inl readHome))) (h_read : w0 (B 21) = some (.inl (g.2.2.1 0, 43, .inl read))) : CT g yX9_readPerson cX9_readPerson 2 (some .boolean) 3 67 0 0 w0 [.ref (B 0)] (fun r w2 => r = some (.int (bI ((f_X9_readPerson x_size x_at x_readHouses x_readPeople text readHome read).1))) ∧ w2 (B 0) = some (.inr (9, cM B (x_thrown, x_houses, x_people, x_paths, x_acts, x_size, (f_X9_readPerson x_size x_at x_readHouses x_readPeople text readHome read).2.1, x_readHouses, (f_X9_readPerson x_size x_at x_readHouses x_readPeople text readHome read).2.2.1, x_readPaths, x_sights, x_drawn))) ∧ w2 (B 19) = some (.inl (g.2.2.1 0, 6, .inl ((f_X9_readPerson x_size x_at x_readHouses x_readPeople text readHome read).2.2.2.1))) ∧ w2 (B 21) = some (.inl (g.2.2.1 0, 43, .inl ((f_X9_readPerson x_size x_at x_readHouses x_readPeople text readHome read).2.2.2.2))) ∧ wE (fun q => q = (B 0) ∨ q = (B 19) ∨ q = (B 21)) w0 w2) := by
  refine CT.of (own := RX9) (by decide +kernel) rfl (Nat.le_of_ble_eq_true rfl) (fun X hC hR hI => ?_)
  show V g X 2 w0 0 0 0 [(0, .ref (B 0))] []
  have hE : wE (fun q => q = (B 0) ∨ q = (B 19) ∨ q = (B 21)) w0 w0 := wE.refl
  refine vv_aload_n hC 0 dX9_readPerson_0 rfl rfl ?_
  refine vv_aload_n hC 0 dX9_readPerson_1 rfl rfl ?_
  refine vv_get (v := .int (nI x_readHouses)) hC fl_X9_109 dX9_readPerson_2 h_m rfl ?_
  refine vv_iconst (v := 1) hC dX9_readPerson_5 (by decide) ?_
  refine vv_isub hC dX9_readPerson_6 ?_
  refine vv_callV hC dX9_readPerson_7 md_X9_takes lk_m_X9_121 lk_i_X9_takes lk_s_X9_takes h_m rfl (As := [.int (nI x_readHouses - 1)]) (rest := []) (c_X9_takes g w0 B hB x_thrown x_houses x_people x_paths x_acts x_size x_at x_readHouses x_readPeople x_readPaths x_sights x_drawn text (nI x_readHouses - 1) (by omega) (by omega) h_m h_text) rfl rfl (Nat.le_of_ble_eq_true rfl) ⟨by decide, by decide, by decide, by decide⟩ (fun r w9 hq => ?_)
  obtain ⟨rfl, t1, hs⟩ := hq
  obtain ⟨w1, rfl⟩ : ∃ z, z = w9 := ⟨_, rfl⟩
  have h_text := hs _ _ (fw_ao h_text h_m) h_text
  have h_readHome := hs _ _ (fw_ao h_readHome h_m) h_readHome
  have h_read := hs _ _ (fw_ao h_read h_m) h_read
  have h_m := t1
  have hE := hE.trans (hs.mono (fun _ z => (Or.inl z)))
  show V g X 2 w1 0 0 10 [(0, .ref (B 0))] [.int (bI ((f_X9_takes x_size x_at text (nI x_readHouses - 1)).1))]
  refine vv_if_ne hC 15 dX9_readPerson_10 (by decide) (fun c2 => ?_) (fun c2 => ?_)
  · have c2 : (f_X9_takes x_size x_at text (nI x_readHouses - 1)).1 = true := bI_t c2
    have bc2 := takes_b c2
    refine vv_aload_n hC 0 dX9_readPerson_15 rfl rfl ?_
    refine vv_get (v := .ref (B 12)) hC fl_X9_32 dX9_readPerson_16 h_m rfl ?_
    refine vv_aload_n hC 0 dX9_readPerson_19 rfl rfl ?_
    refine vv_get (v := .int (nI ((f_X9_takes x_size x_at text (nI x_readHouses - 1)).2))) hC fl_X9_98 dX9_readPerson_20 h_m rfl ?_
    refine vv_iconst (v := 1) hC dX9_readPerson_23 (by decide) ?_
    refine vv_isub hC dX9_readPerson_24 ?_
    refine vv_topi (nI (((f_X9_takes x_size x_at text (nI x_readHouses - 1)).2) - 1)) (pk_sub (a := (f_X9_takes x_size x_at text (nI x_readHouses - 1)).2) (b := 1) (by omega)) ?_
    refine vv_ialdn (t := ((f_X9_takes x_size x_at text (nI x_readHouses - 1)).2) - 1) hC dX9_readPerson_25 h_text (by omega) (by decide) ?_
    refine vv_bipush (v := (48)) hC dX9_readPerson_26 (by decide) ?_
    refine vv_isub hC dX9_readPerson_28 ?_
    refine vv_istore_n (lv2 := [(1, .int (text (((f_X9_takes x_size x_at text (nI x_readHouses - 1)).2) - 1) - 48)), (0, .ref (B 0))]) hC dX9_readPerson_29 rfl (by decide) rfl ?_
    refine vv_aload_n hC 1 dX9_readPerson_30 rfl rfl ?_
    refine vv_iconst (v := 1) hC dX9_readPerson_31 (by decide) ?_
    refine vv_callV hC dX9_readPerson_32 md_X9_takes lk_m_X9_121 lk_i_X9_takes lk_s_X9_takes h_m rfl (As := [.int 1]) (rest := []) (c_X9_takes g w1 B hB x_thrown x_houses x_people x_paths x_acts x_size ((f_X9_takes x_size x_at text (nI x_readHouses - 1)).2) x_readHouses x_readPeople x_readPaths x_sights x_drawn text 1 (by omega) (by omega) h_m h_text) rfl rfl (Nat.le_of_ble_eq_true rfl) ⟨by decide, by decide, by decide, by decide⟩ (fun r w9 hq => ?_)
    obtain ⟨rfl, t1, hs⟩ := hq
    obtain ⟨w3, rfl⟩ : ∃ z, z = w9 := ⟨_, rfl⟩
    have h_text := hs _ _ (fw_ao h_text h_m) h_text
    have h_readHome := hs _ _ (fw_ao h_readHome h_m) h_readHome
    have h_read := hs _ _ (fw_ao h_read h_m) h_read
    have h_m := t1
    have hE := hE.trans (hs.mono (fun _ z => (Or.inl z)))
    show V g X 2 w3 0 0 35 [(1, .int (text (((f_X9_takes x_size x_at text (nI x_readHouses - 1)).2) - 1) - 48)), (0, .ref (B 0))] [.int (bI ((f_X9_takes x_size ((f_X9_takes x_size x_at text (nI x_readHouses - 1)).2) text 1).1))]
    refine vv_if_ne hC 40 dX9_readPerson_35 (by decide) (fun c4 => ?_) (fun c4 => ?_)
    · have c4 : (f_X9_takes x_size ((f_X9_takes x_size x_at text (nI x_readHouses - 1)).2) text 1).1 = true := bI_t c4
      have bc4 := takes_b c4
      refine vv_aload_n hC 1 dX9_readPerson_40 rfl rfl ?_
      refine vv_get (v := .ref (B 19)) hC fl_X9_38 dX9_readPerson_41 h_m rfl ?_
      refine vv_aload_n hC 1 dX9_readPerson_44 rfl rfl ?_
      refine vv_get (v := .int (nI x_readPeople)) hC fl_X9_115 dX9_readPerson_45 h_m rfl ?_
      refine vv_iload_n hC 0 dX9_readPerson_48 rfl rfl ?_
      refine vv_iastn (t := x_readPeople) hC dX9_readPerson_49 h_readHome (by omega) (by decide) (fun w5 t1 hs => ?_)
      have t1 : w5 (B 19) = some (.inl (g.2.2.1 0, 6, .inl (upd readHome x_readPeople (text (((f_X9_takes x_size x_at text (nI x_readHouses - 1)).2) - 1) - 48)))) := t1
      have h_m := hs _ _ (fw_oa h_m h_readHome) h_m
      have h_text := hs _ _ (fw_inj hB (by decide) (by decide) (by decide)) h_text
      have h_read := hs _ _ (fw_inj hB (by decide) (by decide) (by decide)) h_read
      have h_readHome := t1
      have hE := hE.trans (hs.mono (fun _ z => (Or.inr (Or.inl z))))
      refine vv_aload_n hC 1 dX9_readPerson_50 rfl rfl ?_
      refine vv_get (v := .ref (B 21)) hC fl_X9_44 dX9_readPerson_51 h_m rfl ?_
      refine vv_bipush (v := (13)) hC dX9_readPerson_54 (by decide) ?_
      refine vv_iconst (v := 5) hC dX9_readPerson_56 (by decide) ?_
      refine vv_aload_n hC 1 dX9_readPerson_57 rfl rfl ?_
      refine vv_get (v := .int (nI x_readPeople)) hC fl_X9_115 dX9_readPerson_58 h_m rfl ?_
      refine vv_imul hC dX9_readPerson_61 ?_
      refine vv_topi (nI (5 * x_readPeople)) (pk_mul 5 x_readPeople) ?_
      refine vv_iadd hC dX9_readPerson_62 ?_
      refine vv_topi (nI (13 + 5 * x_readPeople)) (nI_add 13 (5 * x_readPeople)) ?_
      refine vv_iconst (v := 0) hC dX9_readPerson_63 (by decide) ?_
      refine vv_iadd hC dX9_readPerson_64 ?_
      refine vv_topi (nI (13 + 5 * x_readPeople)) (nI_add (13 + 5 * x_readPeople) 0) ?_
      refine vv_aload_n hC 1 dX9_readPerson_65 rfl rfl ?_
      refine vv_get (v := .ref (B 12)) hC fl_X9_32 dX9_readPerson_66 h_m rfl ?_
      refine vv_aload_n hC 1 dX9_readPerson_69 rfl rfl ?_
      refine vv_get (v := .int (nI ((f_X9_takes x_size ((f_X9_takes x_size x_at text (nI x_readHouses - 1)).2) text 1).2))) hC fl_X9_98 dX9_readPerson_70 h_m rfl ?_
      refine vv_iconst (v := 1) hC dX9_readPerson_73 (by decide) ?_
      refine vv_isub hC dX9_readPerson_74 ?_
      refine vv_topi (nI (((f_X9_takes x_size ((f_X9_takes x_size x_at text (nI x_readHouses - 1)).2) text 1).2) - 1)) (pk_sub (a := (f_X9_takes x_size ((f_X9_takes x_size x_at text (nI x_readHouses - 1)).2) text 1).2) (b := 1) (by omega)) ?_
      refine vv_ialdn (t := ((f_X9_takes x_size ((f_X9_takes x_size x_at text (nI x_readHouses - 1)).2) text 1).2) - 1) hC dX9_readPerson_75 h_text (by omega) (by decide) ?_
      refine vv_bipush (v := (48)) hC dX9_readPerson_76 (by decide) ?_
      refine vv_isub hC dX9_readPerson_78 ?_
      refine vv_iastn (t := 13 + 5 * x_readPeople) hC dX9_readPerson_79 h_read (by omega) (by decide) (fun w6 t1 hs => ?_)
      have t1 : w6 (B 21) = some (.inl (g.2.2.1 0, 43, .inl (upd read (13 + 5 * x_readPeople) (text (((f_X9_takes x_size ((f_X9_takes x_size x_at text (nI x_readHouses - 1)).2) text 1).2) - 1) - 48)))) := t1
      have h_m := hs _ _ (fw_oa h_m h_read) h_m
      have h_text := hs _ _ (fw_inj hB (by decide) (by decide) (by decide)) h_text
      have h_readHome := hs _ _ (fw_inj hB (by decide) (by decide) (by decide)) h_readHome
      have h_read := t1
      have hE := hE.trans (hs.mono (fun _ z => (Or.inr (Or.inr z))))
      refine vv_aload_n hC 1 dX9_readPerson_80 rfl rfl ?_
      refine vv_get (v := .ref (B 21)) hC fl_X9_44 dX9_readPerson_81 h_m rfl ?_
      refine vv_bipush (v := (13)) hC dX9_readPerson_84 (by decide) ?_
      refine vv_iconst (v := 5) hC dX9_readPerson_86 (by decide) ?_
      refine vv_aload_n hC 1 dX9_readPerson_87 rfl rfl ?_
      refine vv_get (v := .int (nI x_readPeople)) hC fl_X9_115 dX9_readPerson_88 h_m rfl ?_
      refine vv_imul hC dX9_readPerson_91 ?_
      refine vv_topi (nI (5 * x_readPeople)) (pk_mul 5 x_readPeople) ?_
      refine vv_iadd hC dX9_readPerson_92 ?_
      refine vv_topi (nI (13 + 5 * x_readPeople)) (nI_add 13 (5 * x_readPeople)) ?_
      refine vv_iconst (v := 4) hC dX9_readPerson_93 (by decide) ?_
      refine vv_iadd hC dX9_readPerson_94 ?_
      refine vv_topi (nI (13 + 5 * x_readPeople + 4)) (nI_add (13 + 5 * x_readPeople) 4) ?_
      refine vv_bipush (v := (-9)) hC dX9_readPerson_95 (by decide) ?_
      refine vv_iastn (t := 13 + 5 * x_readPeople + 4) hC dX9_readPerson_97 h_read (by omega) (by decide) (fun w7 t1 hs => ?_)
      have t1 : w7 (B 21) = some (.inl (g.2.2.1 0, 43, .inl (upd (upd read (13 + 5 * x_readPeople) (text (((f_X9_takes x_size ((f_X9_takes x_size x_at text (nI x_readHouses - 1)).2) text 1).2) - 1) - 48)) (13 + 5 * x_readPeople + 4) (-9)))) := t1
      have h_m := hs _ _ (fw_oa h_m h_read) h_m
      have h_text := hs _ _ (fw_inj hB (by decide) (by decide) (by decide)) h_text
      have h_readHome := hs _ _ (fw_inj hB (by decide) (by decide) (by decide)) h_readHome
      have h_read := t1
      have hE := hE.trans (hs.mono (fun _ z => (Or.inr (Or.inr z))))
      refine vv_aload_n hC 1 dX9_readPerson_98 rfl rfl ?_
      refine vv_dup hC dX9_readPerson_99 rfl ?_
      refine vv_get (v := .int (nI x_readPeople)) hC fl_X9_115 dX9_readPerson_100 h_m rfl ?_
      refine vv_iconst (v := 1) hC dX9_readPerson_103 (by decide) ?_
      refine vv_iadd hC dX9_readPerson_104 ?_
      refine vv_topi (nI (x_readPeople + 1)) (nI_add x_readPeople 1) ?_
      refine vv_put hC fp_X9_115 dX9_readPerson_105 h_m rfl rfl (Nat.le_of_ble_eq_true rfl) (fun w8 t1 hs => ?_)
      have t1 : w8 (B 0) = some (.inr (9, cM B (x_thrown, x_houses, x_people, x_paths, x_acts, x_size, (f_X9_takes x_size ((f_X9_takes x_size x_at text (nI x_readHouses - 1)).2) text 1).2, x_readHouses, x_readPeople + 1, x_readPaths, x_sights, x_drawn))) := t1.trans (congrArg (fun z => some (Sum.inr (9, z))) (eM_readPeople _ _ _ _ _ _ _ _ _ _ _ _ _ _))
      have h_text := hs _ _ (fw_ao h_text h_m) h_text
      have h_readHome := hs _ _ (fw_ao h_readHome h_m) h_readHome
      have h_read := hs _ _ (fw_ao h_read h_m) h_read
      have h_m := t1
      have hE := hE.trans (hs.mono (fun _ z => (Or.inl z)))
      refine vv_iconst (v := 1) hC dX9_readPerson_108 (by decide) ?_
      have hf : (f_X9_readPerson x_size x_at x_readHouses x_readPeople text readHome read) = (true, (f_X9_takes x_size ((f_X9_takes x_size x_at text (nI x_readHouses - 1)).2) text 1).2, x_readPeople + 1, upd readHome x_readPeople (text (((f_X9_takes x_size x_at text (nI x_readHouses - 1)).2) - 1) - 48), upd (upd read (13 + 5 * x_readPeople) (text (((f_X9_takes x_size ((f_X9_takes x_size x_at text (nI x_readHouses - 1)).2) text 1).2) - 1) - 48)) (13 + 5 * x_readPeople + 4) (-9)) := by first | (simp only [f_X9_readPerson, if_pos c2, if_pos c4]; done) | rfl | (simp only [f_X9_readPerson, if_pos c2, if_pos c4]; rfl)
      refine vv_zret hC hR rfl (by decide) dX9_readPerson_109 (by omega) (by omega) ?_
      rw [hf]
      try dsimp only
      exact ⟨rfl, h_m, h_readHome, h_read, hE⟩
    · have c4 : ¬ ((f_X9_takes x_size ((f_X9_takes x_size x_at text (nI x_readHouses - 1)).2) text 1).1 = true) := bI_f c4
      refine vv_iconst (v := 0) hC dX9_readPerson_38 (by decide) ?_
      have hf : (f_X9_readPerson x_size x_at x_readHouses x_readPeople text readHome read) = (false, (f_X9_takes x_size ((f_X9_takes x_size x_at text (nI x_readHouses - 1)).2) text 1).2, x_readPeople, readHome, read) := by first | (simp only [f_X9_readPerson, if_pos c2, if_neg c4]; done) | rfl | (simp only [f_X9_readPerson, if_pos c2, if_neg c4]; rfl)
      refine vv_zret hC hR rfl (by decide) dX9_readPerson_39 (by omega) (by omega) ?_
      rw [hf]
      try dsimp only
      exact ⟨rfl, h_m, h_readHome, h_read, hE⟩
  · have c2 : ¬ ((f_X9_takes x_size x_at text (nI x_readHouses - 1)).1 = true) := bI_f c2
    refine vv_iconst (v := 0) hC dX9_readPerson_13 (by decide) ?_
    have hf : (f_X9_readPerson x_size x_at x_readHouses x_readPeople text readHome read) = (false, (f_X9_takes x_size x_at text (nI x_readHouses - 1)).2, x_readPeople, readHome, read) := by first | (simp only [f_X9_readPerson, if_neg c2]; done) | rfl | (simp only [f_X9_readPerson, if_neg c2]; rfl)
    refine vv_zret hC hR rfl (by decide) dX9_readPerson_14 (by omega) (by omega) ?_
    rw [hf]
    try dsimp only
    exact ⟨rfl, h_m, h_readHome, h_read, hE⟩
def f_X9_readTwo (x_size : Nat) (x_at : Nat) (x_readPeople : Nat) (text : Nat → Int32) (readKin : Nat → Int32) : Bool × Nat × (Nat → Int32) := (if f_X9_in ((f_X9_peek x_size x_at text).toInt64) 0 ((nI x_readPeople - 1).toInt64) = true then (if f_X9_hasOther x_readPeople readKin (tn (f_X9_peek x_size x_at text)) = true then (if f_X9_in ((f_X9_peek x_size (x_at + 1) text).toInt64) 0 ((nI x_readPeople - 1).toInt64) = true then (if tn (f_X9_peek x_size x_at text) = tn (f_X9_peek x_size (x_at + 1) text) then (false, x_at + 1, readKin) else (if f_X9_has (readKin (tn (f_X9_peek x_size x_at text))) (nI (tn (f_X9_peek x_size (x_at + 1) text))) = true then (false, x_at + 1, readKin) else (true, x_at + 1 + 1, upd (upd readKin (tn (f_X9_peek x_size x_at text)) (readKin (tn (f_X9_peek x_size x_at text)) ||| ((1 : Int32) <<< (nI (tn (f_X9_peek x_size (x_at + 1) text)) &&& 31)))) (tn (f_X9_peek x_size (x_at + 1) text)) ((upd readKin (tn (f_X9_peek x_size x_at text)) (readKin (tn (f_X9_peek x_size x_at text)) ||| ((1 : Int32) <<< (nI (tn (f_X9_peek x_size (x_at + 1) text)) &&& 31)))) (tn (f_X9_peek x_size (x_at + 1) text)) ||| ((1 : Int32) <<< (nI (tn (f_X9_peek x_size x_at text)) &&& 31)))))) else (false, x_at + 1, readKin)) else (false, x_at, readKin)) else (false, x_at, readKin))
set_option maxHeartbeats 4000000 in
set_option maxRecDepth 100000 in
theorem c_X9_readTwo (g : GT) (w0 : Wd) (B : Nat → Nat) (hB : ∀ i j, i < 60 → j < 60 → B i = B j → i = j) (x_thrown : Int32) (x_houses : Nat) (x_people : Nat) (x_paths : Nat) (x_acts : Nat) (x_size : Nat) (x_at : Nat) (x_readHouses : Nat) (x_readPeople : Nat) (x_readPaths : Nat) (x_sights : Nat) (x_drawn : Int64) (text : Nat → Int32) (readKin : Nat → Int32) (hsz : x_size ≤ 96) (hat : x_at ≤ 96) (hrp : x_readPeople ≤ 6) (h_m : w0 (B 0) = some (.inr (9, cM B (x_thrown, x_houses, x_people, x_paths, x_acts, x_size, x_at, x_readHouses, x_readPeople, x_readPaths, x_sights, x_drawn)))) (h_text : w0 (B 12) = some (.inl (g.2.2.1 0, 96, .inl text))) (h_readKin : w0 (B 20) = some (.inl (g.2.2.1 0, 6, .inl readKin))) : CT g yX9_readTwo cX9_readTwo 3 (some .boolean) 2 45 0 0 w0 [.ref (B 0)] (fun r w2 => r = some (.int (bI ((f_X9_readTwo x_size x_at x_readPeople text readKin).1))) ∧ w2 (B 0) = some (.inr (9, cM B (x_thrown, x_houses, x_people, x_paths, x_acts, x_size, (f_X9_readTwo x_size x_at x_readPeople text readKin).2.1, x_readHouses, x_readPeople, x_readPaths, x_sights, x_drawn))) ∧ w2 (B 20) = some (.inl (g.2.2.1 0, 6, .inl ((f_X9_readTwo x_size x_at x_readPeople text readKin).2.2))) ∧ wE (fun q => q = (B 0) ∨ q = (B 20)) w0 w2) := by
  refine CT.of (own := RX9) (by decide +kernel) rfl (Nat.le_of_ble_eq_true rfl) (fun X hC hR hI => ?_)
  show V g X 3 w0 0 0 0 [(0, .ref (B 0))] []
  have hE : wE (fun q => q = (B 0) ∨ q = (B 20)) w0 w0 := wE.refl
  refine vv_aload_n hC 0 dX9_readTwo_0 rfl rfl ?_
  refine vv_callV hC dX9_readTwo_1 md_X9_peek lk_m_X9_105 lk_i_X9_peek lk_s_X9_peek h_m rfl (As := []) (rest := []) (c_X9_peek g w0 B hB x_thrown x_houses x_people x_paths x_acts x_size x_at x_readHouses x_readPeople x_readPaths x_sights x_drawn text (by omega) (by omega) h_m h_text) rfl rfl (Nat.le_of_ble_eq_true rfl) ⟨by decide, by decide, by decide, by decide⟩ (fun r w9 hq => ?_)
  obtain ⟨rfl, rfl⟩ := hq
  show V g X 3 w0 0 0 4 [(0, .ref (B 0))] [.int (f_X9_peek x_size x_at text)]
  refine vv_istore_n (lv2 := [(1, .int (f_X9_peek x_size x_at text)), (0, .ref (B 0))]) hC dX9_readTwo_4 rfl (by decide) rfl ?_
  refine vv_iload_n hC 0 dX9_readTwo_5 rfl rfl ?_
  refine vv_i2l hC dX9_readTwo_6 ?_
  refine vv_lconst (v := 0) hC dX9_readTwo_7 (by decide) ?_
  refine vv_aload_n hC 1 dX9_readTwo_8 rfl rfl ?_
  refine vv_get (v := .int (nI x_readPeople)) hC fl_X9_115 dX9_readTwo_9 h_m rfl ?_
  refine vv_iconst (v := 1) hC dX9_readTwo_12 (by decide) ?_
  refine vv_isub hC dX9_readTwo_13 ?_
  refine vv_i2l hC dX9_readTwo_14 ?_
  refine vv_callS hC dX9_readTwo_15 md_X9_in lk_m_X9_76 lk_t_X9_in (As := [.long ((f_X9_peek x_size x_at text).toInt64), .long 0, .long ((nI x_readPeople - 1).toInt64)]) (rest := []) (c_X9_in g w0 ((f_X9_peek x_size x_at text).toInt64) 0 ((nI x_readPeople - 1).toInt64)) rfl rfl (Nat.le_of_ble_eq_true rfl) ⟨by decide, by decide, by decide, by decide⟩ (fun r w9 hq => ?_)
  obtain ⟨rfl, rfl⟩ := hq
  show V g X 3 w0 0 0 18 [(1, .int (f_X9_peek x_size x_at text)), (0, .ref (B 0))] [.int (bI (f_X9_in ((f_X9_peek x_size x_at text).toInt64) 0 ((nI x_readPeople - 1).toInt64)))]
  refine vv_if_eq hC 29 dX9_readTwo_18 (by decide) (fun c1 => ?_) (fun c1 => ?_)
  · have c1 : ¬ (f_X9_in ((f_X9_peek x_size x_at text).toInt64) 0 ((nI x_readPeople - 1).toInt64) = true) := bI_f c1
    refine vv_iconst (v := 0) hC dX9_readTwo_29 (by decide) ?_
    have hf : (f_X9_readTwo x_size x_at x_readPeople text readKin) = (false, x_at, readKin) := by first | (simp only [f_X9_readTwo, if_neg c1]; done) | rfl | (simp only [f_X9_readTwo, if_neg c1]; rfl)
    refine vv_zret hC hR rfl (by decide) dX9_readTwo_30 (by omega) (by omega) ?_
    rw [hf]
    try dsimp only
    exact ⟨rfl, h_m, h_readKin, hE⟩
  · have c1 : f_X9_in ((f_X9_peek x_size x_at text).toInt64) 0 ((nI x_readPeople - 1).toInt64) = true := bI_t c1
    have bc1 := inN_b (by omega) c1
    have bc1 := peek_in c1
    refine vv_aload_n hC 1 dX9_readTwo_21 rfl rfl ?_
    refine vv_iload_n hC 0 dX9_readTwo_22 rfl rfl ?_
    refine vv_topi (nI (tn (f_X9_peek x_size x_at text))) (inN_e (by omega) c1) ?_
    refine vv_callV hC dX9_readTwo_23 md_X9_hasOther lk_m_X9_118 lk_i_X9_hasOther lk_s_X9_hasOther h_m rfl (As := [.int (nI (tn (f_X9_peek x_size x_at text)))]) (rest := []) (c_X9_hasOther g w0 B hB x_thrown x_houses x_people x_paths x_acts x_size x_at x_readHouses x_readPeople x_readPaths x_sights x_drawn readKin (tn (f_X9_peek x_size x_at text)) (by omega) h_m h_readKin) rfl rfl (Nat.le_of_ble_eq_true rfl) ⟨by decide, by decide, by decide, by decide⟩ (fun r w9 hq => ?_)
    obtain ⟨rfl, rfl⟩ := hq
    show V g X 3 w0 0 0 26 [(1, .int (f_X9_peek x_size x_at text)), (0, .ref (B 0))] [.int (bI (f_X9_hasOther x_readPeople readKin (tn (f_X9_peek x_size x_at text))))]
    refine vv_if_ne hC 31 dX9_readTwo_26 (by decide) (fun c2 => ?_) (fun c2 => ?_)
    · have c2 : f_X9_hasOther x_readPeople readKin (tn (f_X9_peek x_size x_at text)) = true := bI_t c2
      refine vv_aload_n hC 1 dX9_readTwo_31 rfl rfl ?_
      refine vv_dup hC dX9_readTwo_32 rfl ?_
      refine vv_get (v := .int (nI x_at)) hC fl_X9_98 dX9_readTwo_33 h_m rfl ?_
      refine vv_iconst (v := 1) hC dX9_readTwo_36 (by decide) ?_
      refine vv_iadd hC dX9_readTwo_37 ?_
      refine vv_topi (nI (x_at + 1)) (nI_add x_at 1) ?_
      refine vv_put hC fp_X9_98 dX9_readTwo_38 h_m rfl rfl (Nat.le_of_ble_eq_true rfl) (fun w3 t1 hs => ?_)
      have t1 : w3 (B 0) = some (.inr (9, cM B (x_thrown, x_houses, x_people, x_paths, x_acts, x_size, x_at + 1, x_readHouses, x_readPeople, x_readPaths, x_sights, x_drawn))) := t1.trans (congrArg (fun z => some (Sum.inr (9, z))) (eM_at _ _ _ _ _ _ _ _ _ _ _ _ _ _))
      have h_text := hs _ _ (fw_ao h_text h_m) h_text
      have h_readKin := hs _ _ (fw_ao h_readKin h_m) h_readKin
      have h_m := t1
      have hE := hE.trans (hs.mono (fun _ z => (Or.inl z)))
      refine vv_aload_n hC 1 dX9_readTwo_41 rfl rfl ?_
      refine vv_callV hC dX9_readTwo_42 md_X9_peek lk_m_X9_105 lk_i_X9_peek lk_s_X9_peek h_m rfl (As := []) (rest := []) (c_X9_peek g w3 B hB x_thrown x_houses x_people x_paths x_acts x_size (x_at + 1) x_readHouses x_readPeople x_readPaths x_sights x_drawn text (by omega) (by omega) h_m h_text) rfl rfl (Nat.le_of_ble_eq_true rfl) ⟨by decide, by decide, by decide, by decide⟩ (fun r w9 hq => ?_)
      obtain ⟨rfl, rfl⟩ := hq
      show V g X 3 w3 0 0 45 [(1, .int (f_X9_peek x_size x_at text)), (0, .ref (B 0))] [.int (f_X9_peek x_size (x_at + 1) text)]
      refine vv_istore_n (lv2 := [(2, .int (f_X9_peek x_size (x_at + 1) text)), (1, .int (f_X9_peek x_size x_at text)), (0, .ref (B 0))]) hC dX9_readTwo_45 rfl (by decide) rfl ?_
      refine vv_iload_n hC 0 dX9_readTwo_46 rfl rfl ?_
      refine vv_i2l hC dX9_readTwo_47 ?_
      refine vv_lconst (v := 0) hC dX9_readTwo_48 (by decide) ?_
      refine vv_aload_n hC 2 dX9_readTwo_49 rfl rfl ?_
      refine vv_get (v := .int (nI x_readPeople)) hC fl_X9_115 dX9_readTwo_50 h_m rfl ?_
      refine vv_iconst (v := 1) hC dX9_readTwo_53 (by decide) ?_
      refine vv_isub hC dX9_readTwo_54 ?_
      refine vv_i2l hC dX9_readTwo_55 ?_
      refine vv_callS hC dX9_readTwo_56 md_X9_in lk_m_X9_76 lk_t_X9_in (As := [.long ((f_X9_peek x_size (x_at + 1) text).toInt64), .long 0, .long ((nI x_readPeople - 1).toInt64)]) (rest := []) (c_X9_in g w3 ((f_X9_peek x_size (x_at + 1) text).toInt64) 0 ((nI x_readPeople - 1).toInt64)) rfl rfl (Nat.le_of_ble_eq_true rfl) ⟨by decide, by decide, by decide, by decide⟩ (fun r w9 hq => ?_)
      obtain ⟨rfl, rfl⟩ := hq
      show V g X 3 w3 0 0 59 [(2, .int (f_X9_peek x_size (x_at + 1) text)), (1, .int (f_X9_peek x_size x_at text)), (0, .ref (B 0))] [.int (bI (f_X9_in ((f_X9_peek x_size (x_at + 1) text).toInt64) 0 ((nI x_readPeople - 1).toInt64)))]
      refine vv_if_eq hC 80 dX9_readTwo_59 (by decide) (fun c4 => ?_) (fun c4 => ?_)
      · have c4 : ¬ (f_X9_in ((f_X9_peek x_size (x_at + 1) text).toInt64) 0 ((nI x_readPeople - 1).toInt64) = true) := bI_f c4
        refine vv_iconst (v := 0) hC dX9_readTwo_80 (by decide) ?_
        have hf : (f_X9_readTwo x_size x_at x_readPeople text readKin) = (false, x_at + 1, readKin) := by first | (simp only [f_X9_readTwo, if_pos c1, if_pos c2, if_neg c4]; done) | rfl | (simp only [f_X9_readTwo, if_pos c1, if_pos c2, if_neg c4]; rfl)
        refine vv_zret hC hR rfl (by decide) dX9_readTwo_81 (by omega) (by omega) ?_
        rw [hf]
        try dsimp only
        exact ⟨rfl, h_m, h_readKin, hE⟩
      · have c4 : f_X9_in ((f_X9_peek x_size (x_at + 1) text).toInt64) 0 ((nI x_readPeople - 1).toInt64) = true := bI_t c4
        have bc4 := inN_b (by omega) c4
        have bc4 := peek_in c4
        refine vv_iload_n hC 1 dX9_readTwo_62 rfl rfl ?_
        refine vv_topi (nI (tn (f_X9_peek x_size x_at text))) (inN_e (by omega) c1) ?_
        refine vv_iload_n hC 0 dX9_readTwo_63 rfl rfl ?_
        refine vv_topi (nI (tn (f_X9_peek x_size (x_at + 1) text))) (inN_e (by omega) c4) ?_
        refine vv_icmp_eq hC 80 dX9_readTwo_64 (by decide) (fun c5 => ?_) (fun c5 => ?_)
        · have c5 : tn (f_X9_peek x_size x_at text) = tn (f_X9_peek x_size (x_at + 1) text) := (nI_eq_ (a := tn (f_X9_peek x_size x_at text)) (b := tn (f_X9_peek x_size (x_at + 1) text)) (by omega) (by omega)).mp c5
          refine vv_iconst (v := 0) hC dX9_readTwo_80 (by decide) ?_
          have hf : (f_X9_readTwo x_size x_at x_readPeople text readKin) = (false, x_at + 1, readKin) := by first | (simp only [f_X9_readTwo, if_pos c1, if_pos c2, if_pos c4, if_pos c5]; done) | rfl | (simp only [f_X9_readTwo, if_pos c1, if_pos c2, if_pos c4, if_pos c5]; rfl)
          refine vv_zret hC hR rfl (by decide) dX9_readTwo_81 (by omega) (by omega) ?_
          rw [hf]
          try dsimp only
          exact ⟨rfl, h_m, h_readKin, hE⟩
        · have c5 : ¬ (tn (f_X9_peek x_size x_at text) = tn (f_X9_peek x_size (x_at + 1) text)) := fun z => c5 ((nI_eq_ (a := tn (f_X9_peek x_size x_at text)) (b := tn (f_X9_peek x_size (x_at + 1) text)) (by omega) (by omega)).mpr z)
          refine vv_aload_n hC 2 dX9_readTwo_67 rfl rfl ?_
          refine vv_get (v := .ref (B 20)) hC fl_X9_41 dX9_readTwo_68 h_m rfl ?_
          refine vv_iload_n hC 1 dX9_readTwo_71 rfl rfl ?_
          refine vv_topi (nI (tn (f_X9_peek x_size x_at text))) (inN_e (by omega) c1) ?_
          refine vv_ialdn (t := tn (f_X9_peek x_size x_at text)) hC dX9_readTwo_72 h_readKin (by omega) (by decide) ?_
          refine vv_iload_n hC 0 dX9_readTwo_73 rfl rfl ?_
          refine vv_topi (nI (tn (f_X9_peek x_size (x_at + 1) text))) (inN_e (by omega) c4) ?_
          refine vv_callS hC dX9_readTwo_74 md_X9_has lk_m_X9_127 lk_t_X9_has (As := [.int (readKin (tn (f_X9_peek x_size x_at text))), .int (nI (tn (f_X9_peek x_size (x_at + 1) text)))]) (rest := []) (c_X9_has g w3 (readKin (tn (f_X9_peek x_size x_at text))) (nI (tn (f_X9_peek x_size (x_at + 1) text)))) rfl rfl (Nat.le_of_ble_eq_true rfl) ⟨by decide, by decide, by decide, by decide⟩ (fun r w9 hq => ?_)
          obtain ⟨rfl, rfl⟩ := hq
          show V g X 3 w3 0 0 77 [(2, .int (f_X9_peek x_size (x_at + 1) text)), (1, .int (f_X9_peek x_size x_at text)), (0, .ref (B 0))] [.int (bI (f_X9_has (readKin (tn (f_X9_peek x_size x_at text))) (nI (tn (f_X9_peek x_size (x_at + 1) text)))))]
          refine vv_if_eq hC 82 dX9_readTwo_77 (by decide) (fun c6 => ?_) (fun c6 => ?_)
          · have c6 : ¬ (f_X9_has (readKin (tn (f_X9_peek x_size x_at text))) (nI (tn (f_X9_peek x_size (x_at + 1) text))) = true) := bI_f c6
            refine vv_aload_n hC 2 dX9_readTwo_82 rfl rfl ?_
            refine vv_dup hC dX9_readTwo_83 rfl ?_
            refine vv_get (v := .int (nI (x_at + 1))) hC fl_X9_98 dX9_readTwo_84 h_m rfl ?_
            refine vv_iconst (v := 1) hC dX9_readTwo_87 (by decide) ?_
            refine vv_iadd hC dX9_readTwo_88 ?_
            refine vv_topi (nI (x_at + 1 + 1)) (nI_add (x_at + 1) 1) ?_
            refine vv_put hC fp_X9_98 dX9_readTwo_89 h_m rfl rfl (Nat.le_of_ble_eq_true rfl) (fun w7 t1 hs => ?_)
            have t1 : w7 (B 0) = some (.inr (9, cM B (x_thrown, x_houses, x_people, x_paths, x_acts, x_size, x_at + 1 + 1, x_readHouses, x_readPeople, x_readPaths, x_sights, x_drawn))) := t1.trans (congrArg (fun z => some (Sum.inr (9, z))) (eM_at _ _ _ _ _ _ _ _ _ _ _ _ _ _))
            have h_text := hs _ _ (fw_ao h_text h_m) h_text
            have h_readKin := hs _ _ (fw_ao h_readKin h_m) h_readKin
            have h_m := t1
            have hE := hE.trans (hs.mono (fun _ z => (Or.inl z)))
            refine vv_aload_n hC 2 dX9_readTwo_92 rfl rfl ?_
            refine vv_get (v := .ref (B 20)) hC fl_X9_41 dX9_readTwo_93 h_m rfl ?_
            refine vv_iload_n hC 1 dX9_readTwo_96 rfl rfl ?_
            refine vv_topi (nI (tn (f_X9_peek x_size x_at text))) (inN_e (by omega) c1) ?_
            refine vv_dup2_11 hC dX9_readTwo_97 rfl rfl ?_
            refine vv_ialdn (t := tn (f_X9_peek x_size x_at text)) hC dX9_readTwo_98 h_readKin (by omega) (by decide) ?_
            refine vv_iconst (v := 1) hC dX9_readTwo_99 (by decide) ?_
            refine vv_iload_n hC 0 dX9_readTwo_100 rfl rfl ?_
            refine vv_topi (nI (tn (f_X9_peek x_size (x_at + 1) text))) (inN_e (by omega) c4) ?_
            refine vv_ishl hC dX9_readTwo_101 ?_
            refine vv_ior hC dX9_readTwo_102 ?_
            refine vv_iastn (t := tn (f_X9_peek x_size x_at text)) hC dX9_readTwo_103 h_readKin (by omega) (by decide) (fun w8 t1 hs => ?_)
            have t1 : w8 (B 20) = some (.inl (g.2.2.1 0, 6, .inl (upd readKin (tn (f_X9_peek x_size x_at text)) (readKin (tn (f_X9_peek x_size x_at text)) ||| ((1 : Int32) <<< (nI (tn (f_X9_peek x_size (x_at + 1) text)) &&& 31)))))) := t1
            have h_m := hs _ _ (fw_oa h_m h_readKin) h_m
            have h_text := hs _ _ (fw_inj hB (by decide) (by decide) (by decide)) h_text
            have h_readKin := t1
            have hE := hE.trans (hs.mono (fun _ z => (Or.inr z)))
            refine vv_aload_n hC 2 dX9_readTwo_104 rfl rfl ?_
            refine vv_get (v := .ref (B 20)) hC fl_X9_41 dX9_readTwo_105 h_m rfl ?_
            refine vv_iload_n hC 0 dX9_readTwo_108 rfl rfl ?_
            refine vv_topi (nI (tn (f_X9_peek x_size (x_at + 1) text))) (inN_e (by omega) c4) ?_
            refine vv_dup2_11 hC dX9_readTwo_109 rfl rfl ?_
            refine vv_ialdn (t := tn (f_X9_peek x_size (x_at + 1) text)) hC dX9_readTwo_110 h_readKin (by omega) (by decide) ?_
            refine vv_iconst (v := 1) hC dX9_readTwo_111 (by decide) ?_
            refine vv_iload_n hC 1 dX9_readTwo_112 rfl rfl ?_
            refine vv_topi (nI (tn (f_X9_peek x_size x_at text))) (inN_e (by omega) c1) ?_
            refine vv_ishl hC dX9_readTwo_113 ?_
            refine vv_ior hC dX9_readTwo_114 ?_
            refine vv_iastn (t := tn (f_X9_peek x_size (x_at + 1) text)) hC dX9_readTwo_115 h_readKin (by omega) (by decide) (fun w9 t1 hs => ?_)
            have t1 : w9 (B 20) = some (.inl (g.2.2.1 0, 6, .inl (upd (upd readKin (tn (f_X9_peek x_size x_at text)) (readKin (tn (f_X9_peek x_size x_at text)) ||| ((1 : Int32) <<< (nI (tn (f_X9_peek x_size (x_at + 1) text)) &&& 31)))) (tn (f_X9_peek x_size (x_at + 1) text)) ((upd readKin (tn (f_X9_peek x_size x_at text)) (readKin (tn (f_X9_peek x_size x_at text)) ||| ((1 : Int32) <<< (nI (tn (f_X9_peek x_size (x_at + 1) text)) &&& 31)))) (tn (f_X9_peek x_size (x_at + 1) text)) ||| ((1 : Int32) <<< (nI (tn (f_X9_peek x_size x_at text)) &&& 31)))))) := t1
            have h_m := hs _ _ (fw_oa h_m h_readKin) h_m
            have h_text := hs _ _ (fw_inj hB (by decide) (by decide) (by decide)) h_text
            have h_readKin := t1
            have hE := hE.trans (hs.mono (fun _ z => (Or.inr z)))
            refine vv_iconst (v := 1) hC dX9_readTwo_116 (by decide) ?_
            have hf : (f_X9_readTwo x_size x_at x_readPeople text readKin) = (true, x_at + 1 + 1, upd (upd readKin (tn (f_X9_peek x_size x_at text)) (readKin (tn (f_X9_peek x_size x_at text)) ||| ((1 : Int32) <<< (nI (tn (f_X9_peek x_size (x_at + 1) text)) &&& 31)))) (tn (f_X9_peek x_size (x_at + 1) text)) ((upd readKin (tn (f_X9_peek x_size x_at text)) (readKin (tn (f_X9_peek x_size x_at text)) ||| ((1 : Int32) <<< (nI (tn (f_X9_peek x_size (x_at + 1) text)) &&& 31)))) (tn (f_X9_peek x_size (x_at + 1) text)) ||| ((1 : Int32) <<< (nI (tn (f_X9_peek x_size x_at text)) &&& 31)))) := by first | (simp only [f_X9_readTwo, if_pos c1, if_pos c2, if_pos c4, if_neg c5, if_neg c6]; done) | rfl | (simp only [f_X9_readTwo, if_pos c1, if_pos c2, if_pos c4, if_neg c5, if_neg c6]; rfl)
            refine vv_zret hC hR rfl (by decide) dX9_readTwo_117 (by omega) (by omega) ?_
            rw [hf]
            try dsimp only
            exact ⟨rfl, h_m, h_readKin, hE⟩
          · have c6 : f_X9_has (readKin (tn (f_X9_peek x_size x_at text))) (nI (tn (f_X9_peek x_size (x_at + 1) text))) = true := bI_t c6
            refine vv_iconst (v := 0) hC dX9_readTwo_80 (by decide) ?_
            have hf : (f_X9_readTwo x_size x_at x_readPeople text readKin) = (false, x_at + 1, readKin) := by first | (simp only [f_X9_readTwo, if_pos c1, if_pos c2, if_pos c4, if_neg c5, if_pos c6]; done) | rfl | (simp only [f_X9_readTwo, if_pos c1, if_pos c2, if_pos c4, if_neg c5, if_pos c6]; rfl)
            refine vv_zret hC hR rfl (by decide) dX9_readTwo_81 (by omega) (by omega) ?_
            rw [hf]
            try dsimp only
            exact ⟨rfl, h_m, h_readKin, hE⟩
    · have c2 : ¬ (f_X9_hasOther x_readPeople readKin (tn (f_X9_peek x_size x_at text)) = true) := bI_f c2
      refine vv_iconst (v := 0) hC dX9_readTwo_29 (by decide) ?_
      have hf : (f_X9_readTwo x_size x_at x_readPeople text readKin) = (false, x_at, readKin) := by first | (simp only [f_X9_readTwo, if_pos c1, if_neg c2]; done) | rfl | (simp only [f_X9_readTwo, if_pos c1, if_neg c2]; rfl)
      refine vv_zret hC hR rfl (by decide) dX9_readTwo_30 (by omega) (by omega) ?_
      rw [hf]
      try dsimp only
      exact ⟨rfl, h_m, h_readKin, hE⟩
