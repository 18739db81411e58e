def f_X9_readAll_L17 : Nat → Nat → (Nat → Int32) → (Nat → Int32) → (Nat → Int32) → (Nat → Int32) → (Nat → Int32) × (Nat → Int32) × (Nat → Int32) × (Nat → Int32)
  | 0, k17, y_read_17, y_readPath_17, y_readHome_17, y_readKin_17 => (y_read_17, y_readPath_17, y_readHome_17, y_readKin_17)
  | r17 + 1, k17, y_read_17, y_readPath_17, y_readHome_17, y_readKin_17 => f_X9_readAll_L17 r17 (k17 + 1) (upd y_read_17 k17 0) (upd y_readPath_17 (k17 % 16) 0) (upd y_readHome_17 (k17 % 6) 0) (upd y_readKin_17 (k17 % 6) 0)
def f_X9_readAll_L96 (x_size : Nat) (text : Nat → Int32) : Nat → Nat → Nat → Nat → Nat → (Nat → Int32) → (Nat → Int32) → (Nat → Int32) → (Nat → Int32) → Int32 × Nat × Nat × Nat × Nat × (Nat → Int32) × (Nat → Int32) × (Nat → Int32) × (Nat → Int32)
  | 0, y_x_at_96, y_x_readHouses_96, y_x_readPeople_96, y_x_readPaths_96, y_read_96, y_readPath_96, y_readHome_96, y_readKin_96 => (if x_size ≤ y_x_at_96 then ((-9), y_x_at_96, y_x_readHouses_96, y_x_readPeople_96, y_x_readPaths_96, y_read_96, y_readPath_96, y_readHome_96, y_readKin_96) else (if (f_X9_readPart x_size y_x_at_96 y_x_readHouses_96 y_x_readPeople_96 y_x_readPaths_96 text y_readKin_96 y_readPath_96 y_read_96 y_readHome_96).1 = true then (0, y_x_at_96, y_x_readHouses_96, y_x_readPeople_96, y_x_readPaths_96, y_read_96, y_readPath_96, y_readHome_96, y_readKin_96) else (nI ((f_X9_readPart x_size y_x_at_96 y_x_readHouses_96 y_x_readPeople_96 y_x_readPaths_96 text y_readKin_96 y_readPath_96 y_read_96 y_readHome_96).2.1), (f_X9_readPart x_size y_x_at_96 y_x_readHouses_96 y_x_readPeople_96 y_x_readPaths_96 text y_readKin_96 y_readPath_96 y_read_96 y_readHome_96).2.1, (f_X9_readPart x_size y_x_at_96 y_x_readHouses_96 y_x_readPeople_96 y_x_readPaths_96 text y_readKin_96 y_readPath_96 y_read_96 y_readHome_96).2.2.1, (f_X9_readPart x_size y_x_at_96 y_x_readHouses_96 y_x_readPeople_96 y_x_readPaths_96 text y_readKin_96 y_readPath_96 y_read_96 y_readHome_96).2.2.2.1, (f_X9_readPart x_size y_x_at_96 y_x_readHouses_96 y_x_readPeople_96 y_x_readPaths_96 text y_readKin_96 y_readPath_96 y_read_96 y_readHome_96).2.2.2.2.1, (f_X9_readPart x_size y_x_at_96 y_x_readHouses_96 y_x_readPeople_96 y_x_readPaths_96 text y_readKin_96 y_readPath_96 y_read_96 y_readHome_96).2.2.2.2.2.2.2.1, (f_X9_readPart x_size y_x_at_96 y_x_readHouses_96 y_x_readPeople_96 y_x_readPaths_96 text y_readKin_96 y_readPath_96 y_read_96 y_readHome_96).2.2.2.2.2.2.1, (f_X9_readPart x_size y_x_at_96 y_x_readHouses_96 y_x_readPeople_96 y_x_readPaths_96 text y_readKin_96 y_readPath_96 y_read_96 y_readHome_96).2.2.2.2.2.2.2.2, (f_X9_readPart x_size y_x_at_96 y_x_readHouses_96 y_x_readPeople_96 y_x_readPaths_96 text y_readKin_96 y_readPath_96 y_read_96 y_readHome_96).2.2.2.2.2.1)))
  | r96 + 1, y_x_at_96, y_x_readHouses_96, y_x_readPeople_96, y_x_readPaths_96, y_read_96, y_readPath_96, y_readHome_96, y_readKin_96 => (if x_size ≤ y_x_at_96 then ((-9), y_x_at_96, y_x_readHouses_96, y_x_readPeople_96, y_x_readPaths_96, y_read_96, y_readPath_96, y_readHome_96, y_readKin_96) else (if (f_X9_readPart x_size y_x_at_96 y_x_readHouses_96 y_x_readPeople_96 y_x_readPaths_96 text y_readKin_96 y_readPath_96 y_read_96 y_readHome_96).1 = true then f_X9_readAll_L96 x_size text r96 ((f_X9_readPart x_size y_x_at_96 y_x_readHouses_96 y_x_readPeople_96 y_x_readPaths_96 text y_readKin_96 y_readPath_96 y_read_96 y_readHome_96).2.1) ((f_X9_readPart x_size y_x_at_96 y_x_readHouses_96 y_x_readPeople_96 y_x_readPaths_96 text y_readKin_96 y_readPath_96 y_read_96 y_readHome_96).2.2.1) ((f_X9_readPart x_size y_x_at_96 y_x_readHouses_96 y_x_readPeople_96 y_x_readPaths_96 text y_readKin_96 y_readPath_96 y_read_96 y_readHome_96).2.2.2.1) ((f_X9_readPart x_size y_x_at_96 y_x_readHouses_96 y_x_readPeople_96 y_x_readPaths_96 text y_readKin_96 y_readPath_96 y_read_96 y_readHome_96).2.2.2.2.1) ((f_X9_readPart x_size y_x_at_96 y_x_readHouses_96 y_x_readPeople_96 y_x_readPaths_96 text y_readKin_96 y_readPath_96 y_read_96 y_readHome_96).2.2.2.2.2.2.2.1) ((f_X9_readPart x_size y_x_at_96 y_x_readHouses_96 y_x_readPeople_96 y_x_readPaths_96 text y_readKin_96 y_readPath_96 y_read_96 y_readHome_96).2.2.2.2.2.2.1) ((f_X9_readPart x_size y_x_at_96 y_x_readHouses_96 y_x_readPeople_96 y_x_readPaths_96 text y_readKin_96 y_readPath_96 y_read_96 y_readHome_96).2.2.2.2.2.2.2.2) ((f_X9_readPart x_size y_x_at_96 y_x_readHouses_96 y_x_readPeople_96 y_x_readPaths_96 text y_readKin_96 y_readPath_96 y_read_96 y_readHome_96).2.2.2.2.2.1) else (nI ((f_X9_readPart x_size y_x_at_96 y_x_readHouses_96 y_x_readPeople_96 y_x_readPaths_96 text y_readKin_96 y_readPath_96 y_read_96 y_readHome_96).2.1), (f_X9_readPart x_size y_x_at_96 y_x_readHouses_96 y_x_readPeople_96 y_x_readPaths_96 text y_readKin_96 y_readPath_96 y_read_96 y_readHome_96).2.1, (f_X9_readPart x_size y_x_at_96 y_x_readHouses_96 y_x_readPeople_96 y_x_readPaths_96 text y_readKin_96 y_readPath_96 y_read_96 y_readHome_96).2.2.1, (f_X9_readPart x_size y_x_at_96 y_x_readHouses_96 y_x_readPeople_96 y_x_readPaths_96 text y_readKin_96 y_readPath_96 y_read_96 y_readHome_96).2.2.2.1, (f_X9_readPart x_size y_x_at_96 y_x_readHouses_96 y_x_readPeople_96 y_x_readPaths_96 text y_readKin_96 y_readPath_96 y_read_96 y_readHome_96).2.2.2.2.1, (f_X9_readPart x_size y_x_at_96 y_x_readHouses_96 y_x_readPeople_96 y_x_readPaths_96 text y_readKin_96 y_readPath_96 y_read_96 y_readHome_96).2.2.2.2.2.2.2.1, (f_X9_readPart x_size y_x_at_96 y_x_readHouses_96 y_x_readPeople_96 y_x_readPaths_96 text y_readKin_96 y_readPath_96 y_read_96 y_readHome_96).2.2.2.2.2.2.1, (f_X9_readPart x_size y_x_at_96 y_x_readHouses_96 y_x_readPeople_96 y_x_readPaths_96 text y_readKin_96 y_readPath_96 y_read_96 y_readHome_96).2.2.2.2.2.2.2.2, (f_X9_readPart x_size y_x_at_96 y_x_readHouses_96 y_x_readPeople_96 y_x_readPaths_96 text y_readKin_96 y_readPath_96 y_read_96 y_readHome_96).2.2.2.2.2.1)))
def f_X9_readAll_L96_E (x_size : Nat) (text : Nat → Int32) : Nat → Nat → Nat → Nat → Nat → (Nat → Int32) → (Nat → Int32) → (Nat → Int32) → (Nat → Int32) → Bool
  | 0, y_x_at_96, y_x_readHouses_96, y_x_readPeople_96, y_x_readPaths_96, y_read_96, y_readPath_96, y_readHome_96, y_readKin_96 => (if x_size ≤ y_x_at_96 then true else (if (f_X9_readPart x_size y_x_at_96 y_x_readHouses_96 y_x_readPeople_96 y_x_readPaths_96 text y_readKin_96 y_readPath_96 y_read_96 y_readHome_96).1 = true then false else true))
  | r96 + 1, y_x_at_96, y_x_readHouses_96, y_x_readPeople_96, y_x_readPaths_96, y_read_96, y_readPath_96, y_readHome_96, y_readKin_96 => (if x_size ≤ y_x_at_96 then true else (if (f_X9_readPart x_size y_x_at_96 y_x_readHouses_96 y_x_readPeople_96 y_x_readPaths_96 text y_readKin_96 y_readPath_96 y_read_96 y_readHome_96).1 = true then f_X9_readAll_L96_E x_size text r96 ((f_X9_readPart x_size y_x_at_96 y_x_readHouses_96 y_x_readPeople_96 y_x_readPaths_96 text y_readKin_96 y_readPath_96 y_read_96 y_readHome_96).2.1) ((f_X9_readPart x_size y_x_at_96 y_x_readHouses_96 y_x_readPeople_96 y_x_readPaths_96 text y_readKin_96 y_readPath_96 y_read_96 y_readHome_96).2.2.1) ((f_X9_readPart x_size y_x_at_96 y_x_readHouses_96 y_x_readPeople_96 y_x_readPaths_96 text y_readKin_96 y_readPath_96 y_read_96 y_readHome_96).2.2.2.1) ((f_X9_readPart x_size y_x_at_96 y_x_readHouses_96 y_x_readPeople_96 y_x_readPaths_96 text y_readKin_96 y_readPath_96 y_read_96 y_readHome_96).2.2.2.2.1) ((f_X9_readPart x_size y_x_at_96 y_x_readHouses_96 y_x_readPeople_96 y_x_readPaths_96 text y_readKin_96 y_readPath_96 y_read_96 y_readHome_96).2.2.2.2.2.2.2.1) ((f_X9_readPart x_size y_x_at_96 y_x_readHouses_96 y_x_readPeople_96 y_x_readPaths_96 text y_readKin_96 y_readPath_96 y_read_96 y_readHome_96).2.2.2.2.2.2.1) ((f_X9_readPart x_size y_x_at_96 y_x_readHouses_96 y_x_readPeople_96 y_x_readPaths_96 text y_readKin_96 y_readPath_96 y_read_96 y_readHome_96).2.2.2.2.2.2.2.2) ((f_X9_readPart x_size y_x_at_96 y_x_readHouses_96 y_x_readPeople_96 y_x_readPaths_96 text y_readKin_96 y_readPath_96 y_read_96 y_readHome_96).2.2.2.2.2.1) else true))
def f_X9_readAll (x_size : Nat) (read : Nat → Int32) (readPath : Nat → Int32) (readHome : Nat → Int32) (readKin : Nat → Int32) (text : Nat → Int32) : Int32 × Nat × Nat × Nat × Nat × (Nat → Int32) × (Nat → Int32) × (Nat → Int32) × (Nat → Int32) := (if x_size = 0 then (0, 0, 0, 0, 0, (f_X9_readAll_L17 43 0 read readPath readHome readKin).1, (f_X9_readAll_L17 43 0 read readPath readHome readKin).2.1, (f_X9_readAll_L17 43 0 read readPath readHome readKin).2.2.1, (f_X9_readAll_L17 43 0 read readPath readHome readKin).2.2.2) else (if text 0 = 86 then f_X9_readAll_L96 x_size text fuelT 1 0 0 0 ((f_X9_readAll_L17 43 0 read readPath readHome readKin).1) ((f_X9_readAll_L17 43 0 read readPath readHome readKin).2.1) ((f_X9_readAll_L17 43 0 read readPath readHome readKin).2.2.1) ((f_X9_readAll_L17 43 0 read readPath readHome readKin).2.2.2) else (0, 0, 0, 0, 0, (f_X9_readAll_L17 43 0 read readPath readHome readKin).1, (f_X9_readAll_L17 43 0 read readPath readHome readKin).2.1, (f_X9_readAll_L17 43 0 read readPath readHome readKin).2.2.1, (f_X9_readAll_L17 43 0 read readPath readHome readKin).2.2.2)))
theorem ra_E {size : Nat} {text : Nat → Int32} (hs : size ≤ 96) : ∀ (n at_ rh rp rw_ : Nat) (read path home kin : Nat → Int32), rh ≤ 4 → rp ≤ 6 → at_ ≤ 96 → size + 1 ≤ at_ + n → f_X9_readAll_L96_E size text n at_ rh rp rw_ read path home kin = true := by
  intro n
  induction n with
  | zero =>
    intro at_ rh rp rw_ read path home kin _ _ _ h
    simp only [f_X9_readAll_L96_E, if_pos (show size ≤ at_ by omega)]
  | succ n ih =>
    intro at_ rh rp rw_ read path home kin h4 h6 h9 h
    by_cases c : size ≤ at_
    · simp only [f_X9_readAll_L96_E, if_pos c]
    · have b := readPart_b (rw_ := rw_) (text := text) (kin := kin) (path := path) (read := read) (home := home) (show at_ < size by omega) hs h4 h6
      by_cases c2 : (f_X9_readPart size at_ rh rp rw_ text kin path read home).1 = true
      · simp only [f_X9_readAll_L96_E, if_neg c, if_pos c2]
        have := b.2.2.2.2 c2
        exact ih _ _ _ _ _ _ _ _ b.2.2.1 b.2.2.2.1 b.2.1 (by omega)
      · simp only [f_X9_readAll_L96_E, if_neg c, if_neg c2]

set_option maxHeartbeats 4000000 in
set_option maxRecDepth 100000 in
theorem c_X9_readAll (g : GT) (w0 : Wd) (B : Nat → Nat) (hB : ∀ i j, i < 60 → j < 60 → B i = B j → i = j) (x_thrown : Int32) (x_houses : Nat) (x_people : Nat) (x_paths : Nat) (x_acts : Nat) (x_size : Nat) (x_at : Nat) (x_readHouses : Nat) (x_readPeople : Nat) (x_readPaths : Nat) (x_sights : Nat) (x_drawn : Int64) (read : Nat → Int32) (readPath : Nat → Int32) (readHome : Nat → Int32) (readKin : Nat → Int32) (text : Nat → Int32) (hsz : x_size ≤ 96) (h_m : w0 (B 0) = some (.inr (9, cM B (x_thrown, x_houses, x_people, x_paths, x_acts, x_size, x_at, x_readHouses, x_readPeople, x_readPaths, x_sights, x_drawn)))) (h_read : w0 (B 21) = some (.inl (g.2.2.1 0, 43, .inl read))) (h_readPath : w0 (B 18) = some (.inl (g.2.2.1 0, 16, .inl readPath))) (h_readHome : w0 (B 19) = some (.inl (g.2.2.1 0, 6, .inl readHome))) (h_readKin : w0 (B 20) = some (.inl (g.2.2.1 0, 6, .inl readKin))) (h_text : w0 (B 12) = some (.inl (g.2.2.1 0, 96, .inl text))) : CT g yX9_readAll cX9_readAll 2 (some .int) 5 111 0 0 w0 [.ref (B 0)] (fun r w2 => r = some (.int ((f_X9_readAll x_size read readPath readHome readKin text).1)) ∧ w2 (B 0) = some (.inr (9, cM B (x_thrown, x_houses, x_people, x_paths, x_acts, x_size, (f_X9_readAll x_size read readPath readHome readKin text).2.1, (f_X9_readAll x_size read readPath readHome readKin text).2.2.1, (f_X9_readAll x_size read readPath readHome readKin text).2.2.2.1, (f_X9_readAll x_size read readPath readHome readKin text).2.2.2.2.1, x_sights, x_drawn))) ∧ w2 (B 21) = some (.inl (g.2.2.1 0, 43, .inl ((f_X9_readAll x_size read readPath readHome readKin text).2.2.2.2.2.1))) ∧ w2 (B 18) = some (.inl (g.2.2.1 0, 16, .inl ((f_X9_readAll x_size read readPath readHome readKin text).2.2.2.2.2.2.1))) ∧ w2 (B 19) = some (.inl (g.2.2.1 0, 6, .inl ((f_X9_readAll x_size read readPath readHome readKin text).2.2.2.2.2.2.2.1))) ∧ w2 (B 20) = some (.inl (g.2.2.1 0, 6, .inl ((f_X9_readAll x_size read readPath readHome readKin text).2.2.2.2.2.2.2.2))) ∧ wE (fun q => q = (B 0) ∨ q = (B 21) ∨ q = (B 18) ∨ q = (B 19) ∨ q = (B 20)) w0 w2) := by
  refine CT.of (own := RX9) (by decide +kernel) rfl (Nat.le_of_ble_eq_true rfl) (fun X hC hR hI => ?_)
  show V g X 2 w0 0 0 0 [(0, .ref (B 0))] []
  have hE : wE (fun q => q = (B 0) ∨ q = (B 21) ∨ q = (B 18) ∨ q = (B 19) ∨ q = (B 20)) w0 w0 := wE.refl
  refine vv_aload_n hC 0 dX9_readAll_0 rfl rfl ?_
  refine vv_iconst (v := 0) hC dX9_readAll_1 (by decide) ?_
  refine vv_put hC fp_X9_109 dX9_readAll_2 h_m rfl rfl (Nat.le_of_ble_eq_true rfl) (fun w1 t1 hs => ?_)
  have t1 : w1 (B 0) = some (.inr (9, cM B (x_thrown, x_houses, x_people, x_paths, x_acts, x_size, x_at, 0, x_readPeople, x_readPaths, x_sights, x_drawn))) := t1.trans (congrArg (fun z => some (Sum.inr (9, z))) (eM_readHouses _ _ _ _ _ _ _ _ _ _ _ _ _ _))
  have h_read := hs _ _ (fw_ao h_read h_m) h_read
  have h_readPath := hs _ _ (fw_ao h_readPath h_m) h_readPath
  have h_readHome := hs _ _ (fw_ao h_readHome h_m) h_readHome
  have h_readKin := hs _ _ (fw_ao h_readKin h_m) h_readKin
  have h_text := hs _ _ (fw_ao h_text h_m) h_text
  have h_m := t1
  have hE := hE.trans (hs.mono (fun _ z => (Or.inl z)))
  refine vv_aload_n hC 0 dX9_readAll_5 rfl rfl ?_
  refine vv_iconst (v := 0) hC dX9_readAll_6 (by decide) ?_
  refine vv_put hC fp_X9_115 dX9_readAll_7 h_m rfl rfl (Nat.le_of_ble_eq_true rfl) (fun w2 t1 hs => ?_)
  have t1 : w2 (B 0) = some (.inr (9, cM B (x_thrown, x_houses, x_people, x_paths, x_acts, x_size, x_at, 0, 0, x_readPaths, x_sights, x_drawn))) := t1.trans (congrArg (fun z => some (Sum.inr (9, z))) (eM_readPeople _ _ _ _ _ _ _ _ _ _ _ _ _ _))
  have h_read := hs _ _ (fw_ao h_read h_m) h_read
  have h_readPath := hs _ _ (fw_ao h_readPath h_m) h_readPath
  have h_readHome := hs _ _ (fw_ao h_readHome h_m) h_readHome
  have h_readKin := hs _ _ (fw_ao h_readKin h_m) h_readKin
  have h_text := hs _ _ (fw_ao h_text h_m) h_text
  have h_m := t1
  have hE := hE.trans (hs.mono (fun _ z => (Or.inl z)))
  refine vv_aload_n hC 0 dX9_readAll_10 rfl rfl ?_
  refine vv_iconst (v := 0) hC dX9_readAll_11 (by decide) ?_
  refine vv_put hC fp_X9_124 dX9_readAll_12 h_m rfl rfl (Nat.le_of_ble_eq_true rfl) (fun w3 t1 hs => ?_)
  have t1 : w3 (B 0) = some (.inr (9, cM B (x_thrown, x_houses, x_people, x_paths, x_acts, x_size, x_at, 0, 0, 0, x_sights, x_drawn))) := t1.trans (congrArg (fun z => some (Sum.inr (9, z))) (eM_readPaths _ _ _ _ _ _ _ _ _ _ _ _ _ _))
  have h_read := hs _ _ (fw_ao h_read h_m) h_read
  have h_readPath := hs _ _ (fw_ao h_readPath h_m) h_readPath
  have h_readHome := hs _ _ (fw_ao h_readHome h_m) h_readHome
  have h_readKin := hs _ _ (fw_ao h_readKin h_m) h_readKin
  have h_text := hs _ _ (fw_ao h_text h_m) h_text
  have h_m := t1
  have hE := hE.trans (hs.mono (fun _ z => (Or.inl z)))
  refine vv_iconst (v := 0) hC dX9_readAll_15 (by decide) ?_
  refine vv_istore_n (lv2 := [(1, .int 0), (0, .ref (B 0))]) hC dX9_readAll_16 rfl (by decide) rfl ?_
  have hL10 : ∀ (r17 k17 : Nat) (y_read_17 : Nat → Int32) (y_readPath_17 : Nat → Int32) (y_readHome_17 : Nat → Int32) (y_readKin_17 : Nat → Int32) (w4 : Wd) (out : (Nat → Int32) × (Nat → Int32) × (Nat → Int32) × (Nat → Int32)), k17 + r17 = 43 → out = f_X9_readAll_L17 r17 k17 y_read_17 y_readPath_17 y_readHome_17 y_readKin_17 → w4 (B 0) = some (.inr (9, cM B (x_thrown, x_houses, x_people, x_paths, x_acts, x_size, x_at, 0, 0, 0, x_sights, x_drawn))) → w4 (B 21) = some (.inl (g.2.2.1 0, 43, .inl y_read_17)) → w4 (B 18) = some (.inl (g.2.2.1 0, 16, .inl y_readPath_17)) → w4 (B 19) = some (.inl (g.2.2.1 0, 6, .inl y_readHome_17)) → w4 (B 20) = some (.inl (g.2.2.1 0, 6, .inl y_readKin_17)) → w4 (B 12) = some (.inl (g.2.2.1 0, 96, .inl text)) → wE (fun q => q = (B 0) ∨ q = (B 21) ∨ q = (B 18) ∨ q = (B 19) ∨ q = (B 20)) w0 w4 → (∀ w9 : Wd, w9 (B 0) = some (.inr (9, cM B (x_thrown, x_houses, x_people, x_paths, x_acts, x_size, x_at, 0, 0, 0, x_sights, x_drawn))) → w9 (B 21) = some (.inl (g.2.2.1 0, 43, .inl out.1)) → w9 (B 18) = some (.inl (g.2.2.1 0, 16, .inl out.2.1)) → w9 (B 19) = some (.inl (g.2.2.1 0, 6, .inl out.2.2.1)) → w9 (B 20) = some (.inl (g.2.2.1 0, 6, .inl out.2.2.2)) → w9 (B 12) = some (.inl (g.2.2.1 0, 96, .inl text)) → wE (fun q => q = (B 0) ∨ q = (B 21) ∨ q = (B 18) ∨ q = (B 19) ∨ q = (B 20)) w0 w9 → V g X 2 w9 0 0 66 [(0, .ref (B 0))] []) → V g X 2 w4 0 0 17 [(0, .ref (B 0)), (1, .int (nI k17))] [] := by
    intro r17
    induction r17 with
    | zero =>
      intro k17 y_read_17 y_readPath_17 y_readHome_17 y_readKin_17 w4 out hb ho h_m h_read h_readPath h_readHome h_readKin h_text hE hk
      refine vv_iload_n hC 1 dX9_readAll_17 rfl rfl ?_
      refine vv_bipush (v := (43)) hC dX9_readAll_18 (by decide) ?_
      refine vv_icmp_ge hC 66 dX9_readAll_20 (by decide) (fun c => ?_) (fun c => False.elim (c ((nI_le_ (a := 43) (b := k17) (by omega) (by omega)).mpr (by omega))))
      refine vv_lv [0] rfl ?_
      have ho := ho.trans (by first | (simp only [f_X9_readAll_L17]; done) | rfl | (simp only [f_X9_readAll_L17]; rfl) : _ = (y_read_17, y_readPath_17, y_readHome_17, y_readKin_17))
      subst ho
      exact hk w4 h_m h_read h_readPath h_readHome h_readKin h_text hE
    | succ r17 ih =>
      intro k17 y_read_17 y_readPath_17 y_readHome_17 y_readKin_17 w4 out hb ho h_m h_read h_readPath h_readHome h_readKin h_text hE hk
      refine vv_iload_n hC 1 dX9_readAll_17 rfl rfl ?_
      refine vv_bipush (v := (43)) hC dX9_readAll_18 (by decide) ?_
      refine vv_icmp_ge hC 66 dX9_readAll_20 (by decide) (fun c => absurd ((nI_le_ (a := 43) (b := k17) (by omega) (by omega)).mp c) (by first | omega | decide)) (fun c => ?_)
      refine vv_aload_n hC 0 dX9_readAll_23 rfl rfl ?_
      refine vv_get (v := .ref (B 21)) hC fl_X9_44 dX9_readAll_24 h_m rfl ?_
      refine vv_iload_n hC 1 dX9_readAll_27 rfl rfl ?_
      refine vv_iconst (v := 0) hC dX9_readAll_28 (by decide) ?_
      refine vv_iastn (t := k17) hC dX9_readAll_29 h_read (by omega) (by decide) (fun w5 t1 hs => ?_)
      have t1 : w5 (B 21) = some (.inl (g.2.2.1 0, 43, .inl (upd y_read_17 k17 0))) := t1
      have h_m := hs _ _ (fw_oa h_m h_read) h_m
      have h_readPath := hs _ _ (fw_inj hB (by decide) (by decide) (by decide)) h_readPath
      have h_readHome := hs _ _ (fw_inj hB (by decide) (by decide) (by decide)) h_readHome
      have h_readKin := hs _ _ (fw_inj hB (by decide) (by decide) (by decide)) h_readKin
      have h_text := hs _ _ (fw_inj hB (by decide) (by decide) (by decide)) h_text
      have h_read := t1
      have hE := hE.trans (hs.mono (fun _ z => (Or.inr (Or.inl z))))
      refine vv_aload_n hC 0 dX9_readAll_30 rfl rfl ?_
      refine vv_get (v := .ref (B 18)) hC fl_X9_35 dX9_readAll_31 h_m rfl ?_
      refine vv_iload_n hC 1 dX9_readAll_34 rfl rfl ?_
      refine vv_bipush (v := (16)) hC dX9_readAll_35 (by decide) ?_
      refine vv_irem hC dX9_readAll_37 (by decide) ?_
      refine vv_topi (nI (k17 % 16)) (nI_rem (a := k17) (d := 16) (by omega) (by omega) (by omega)) ?_
      refine vv_iconst (v := 0) hC dX9_readAll_38 (by decide) ?_
      refine vv_iastn (t := k17 % 16) hC dX9_readAll_39 h_readPath (by omega) (by decide) (fun w6 t1 hs => ?_)
      have t1 : w6 (B 18) = some (.inl (g.2.2.1 0, 16, .inl (upd y_readPath_17 (k17 % 16) 0))) := t1
      have h_m := hs _ _ (fw_oa h_m h_readPath) h_m
      have h_read := hs _ _ (fw_inj hB (by decide) (by decide) (by decide)) h_read
      have h_readHome := hs _ _ (fw_inj hB (by decide) (by decide) (by decide)) h_readHome
      have h_readKin := hs _ _ (fw_inj hB (by decide) (by decide) (by decide)) h_readKin
      have h_text := hs _ _ (fw_inj hB (by decide) (by decide) (by decide)) h_text
      have h_readPath := t1
      have hE := hE.trans (hs.mono (fun _ z => (Or.inr (Or.inr (Or.inl z)))))
      refine vv_aload_n hC 0 dX9_readAll_40 rfl rfl ?_
      refine vv_get (v := .ref (B 19)) hC fl_X9_38 dX9_readAll_41 h_m rfl ?_
      refine vv_iload_n hC 1 dX9_readAll_44 rfl rfl ?_
      refine vv_bipush (v := (6)) hC dX9_readAll_45 (by decide) ?_
      refine vv_irem hC dX9_readAll_47 (by decide) ?_
      refine vv_topi (nI (k17 % 6)) (nI_rem (a := k17) (d := 6) (by omega) (by omega) (by omega)) ?_
      refine vv_iconst (v := 0) hC dX9_readAll_48 (by decide) ?_
      refine vv_iastn (t := k17 % 6) hC dX9_readAll_49 h_readHome (by omega) (by decide) (fun w7 t1 hs => ?_)
      have t1 : w7 (B 19) = some (.inl (g.2.2.1 0, 6, .inl (upd y_readHome_17 (k17 % 6) 0))) := t1
      have h_m := hs _ _ (fw_oa h_m h_readHome) h_m
      have h_read := hs _ _ (fw_inj hB (by decide) (by decide) (by decide)) h_read
      have h_readPath := hs _ _ (fw_inj hB (by decide) (by decide) (by decide)) h_readPath
      have h_readKin := hs _ _ (fw_inj hB (by decide) (by decide) (by decide)) h_readKin
      have h_text := hs _ _ (fw_inj hB (by decide) (by decide) (by decide)) h_text
      have h_readHome := t1
      have hE := hE.trans (hs.mono (fun _ z => (Or.inr (Or.inr (Or.inr (Or.inl z))))))
      refine vv_aload_n hC 0 dX9_readAll_50 rfl rfl ?_
      refine vv_get (v := .ref (B 20)) hC fl_X9_41 dX9_readAll_51 h_m rfl ?_
      refine vv_iload_n hC 1 dX9_readAll_54 rfl rfl ?_
      refine vv_bipush (v := (6)) hC dX9_readAll_55 (by decide) ?_
      refine vv_irem hC dX9_readAll_57 (by decide) ?_
      refine vv_topi (nI (k17 % 6)) (nI_rem (a := k17) (d := 6) (by omega) (by omega) (by omega)) ?_
      refine vv_iconst (v := 0) hC dX9_readAll_58 (by decide) ?_
      refine vv_iastn (t := k17 % 6) hC dX9_readAll_59 h_readKin (by omega) (by decide) (fun w8 t1 hs => ?_)
      have t1 : w8 (B 20) = some (.inl (g.2.2.1 0, 6, .inl (upd y_readKin_17 (k17 % 6) 0))) := t1
      have h_m := hs _ _ (fw_oa h_m h_readKin) h_m
      have h_read := hs _ _ (fw_inj hB (by decide) (by decide) (by decide)) h_read
      have h_readPath := hs _ _ (fw_inj hB (by decide) (by decide) (by decide)) h_readPath
      have h_readHome := hs _ _ (fw_inj hB (by decide) (by decide) (by decide)) h_readHome
      have h_text := hs _ _ (fw_inj hB (by decide) (by decide) (by decide)) h_text
      have h_readKin := t1
      have hE := hE.trans (hs.mono (fun _ z => (Or.inr (Or.inr (Or.inr (Or.inr z))))))
      refine vv_iinc (lv2 := [(1, .int (nI (k17 + 1))), (0, .ref (B 0))]) hC 1 dX9_readAll_60 rfl (nI_add k17 1) (by decide) rfl ?_
      refine vv_goto hC 17 dX9_readAll_63 (by decide) ?_
      refine vv_lv [1, 0] rfl ?_
      exact ih (k17 + 1) (upd y_read_17 k17 0) (upd y_readPath_17 (k17 % 16) 0) (upd y_readHome_17 (k17 % 6) 0) (upd y_readKin_17 (k17 % 6) 0) w8 out (by omega) (ho.trans (by first | (simp only [f_X9_readAll_L17]; done) | rfl | (simp only [f_X9_readAll_L17]; rfl))) h_m h_read h_readPath h_readHome h_readKin h_text hE hk
  refine vv_lv [1, 0] rfl ?_
  refine hL10 43 0 read readPath readHome readKin w3 (f_X9_readAll_L17 43 0 read readPath readHome readKin) (by omega) rfl h_m h_read h_readPath h_readHome h_readKin h_text hE ?_
  intro w9 h_m h_read h_readPath h_readHome h_readKin h_text hE
  refine vv_aload_n hC 0 dX9_readAll_66 rfl rfl ?_
  refine vv_iconst (v := 0) hC dX9_readAll_67 (by decide) ?_
  refine vv_put hC fp_X9_98 dX9_readAll_68 h_m rfl rfl (Nat.le_of_ble_eq_true rfl) (fun w11 t1 hs => ?_)
  have t1 : w11 (B 0) = some (.inr (9, cM B (x_thrown, x_houses, x_people, x_paths, x_acts, x_size, 0, 0, 0, 0, x_sights, x_drawn))) := t1.trans (congrArg (fun z => some (Sum.inr (9, z))) (eM_at _ _ _ _ _ _ _ _ _ _ _ _ _ _))
  have h_read := hs _ _ (fw_ao h_read h_m) h_read
  have h_readPath := hs _ _ (fw_ao h_readPath h_m) h_readPath
  have h_readHome := hs _ _ (fw_ao h_readHome h_m) h_readHome
  have h_readKin := hs _ _ (fw_ao h_readKin h_m) h_readKin
  have h_text := hs _ _ (fw_ao h_text h_m) h_text
  have h_m := t1
  have hE := hE.trans (hs.mono (fun _ z => (Or.inl z)))
  refine vv_aload_n hC 0 dX9_readAll_71 rfl rfl ?_
  refine vv_get (v := .int (nI x_size)) hC fl_X9_93 dX9_readAll_72 h_m rfl ?_
  refine vv_if_eq hC 89 dX9_readAll_75 (by decide) (fun c12 => ?_) (fun c12 => ?_)
  · have c12 : x_size = 0 := (nI_eq_ (a := x_size) (b := 0) (by omega) (by omega)).mp c12
    refine vv_iconst (v := 0) hC dX9_readAll_89 (by decide) ?_
    have hf : (f_X9_readAll x_size read readPath readHome readKin text) = (0, 0, 0, 0, 0, (f_X9_readAll_L17 43 0 read readPath readHome readKin).1, (f_X9_readAll_L17 43 0 read readPath readHome readKin).2.1, (f_X9_readAll_L17 43 0 read readPath readHome readKin).2.2.1, (f_X9_readAll_L17 43 0 read readPath readHome readKin).2.2.2) := by first | (simp only [f_X9_readAll, if_pos c12]; done) | rfl | (simp only [f_X9_readAll, if_pos c12]; rfl)
    refine vv_iret hC hR rfl dX9_readAll_90 (by omega) (by omega) ?_
    rw [hf]
    try dsimp only
    exact ⟨rfl, h_m, h_read, h_readPath, h_readHome, h_readKin, hE⟩
  · have c12 : ¬ (x_size = 0) := fun z => c12 ((nI_eq_ (a := x_size) (b := 0) (by omega) (by omega)).mpr z)
    refine vv_aload_n hC 0 dX9_readAll_78 rfl rfl ?_
    refine vv_get (v := .ref (B 12)) hC fl_X9_32 dX9_readAll_79 h_m rfl ?_
    refine vv_iconst (v := 0) hC dX9_readAll_82 (by decide) ?_
    refine vv_ialdn (t := 0) hC dX9_readAll_83 h_text (by omega) (by decide) ?_
    refine vv_bipush (v := (86)) hC dX9_readAll_84 (by decide) ?_
    refine vv_icmp_eq hC 91 dX9_readAll_86 (by decide) (fun c13 => ?_) (fun c13 => ?_)
    · have c13 : text 0 = 86 := c13
      refine vv_aload_n hC 0 dX9_readAll_91 rfl rfl ?_
      refine vv_iconst (v := 1) hC dX9_readAll_92 (by decide) ?_
      refine vv_put hC fp_X9_98 dX9_readAll_93 h_m rfl rfl (Nat.le_of_ble_eq_true rfl) (fun w14 t1 hs => ?_)
      have t1 : w14 (B 0) = some (.inr (9, cM B (x_thrown, x_houses, x_people, x_paths, x_acts, x_size, 1, 0, 0, 0, x_sights, x_drawn))) := t1.trans (congrArg (fun z => some (Sum.inr (9, z))) (eM_at _ _ _ _ _ _ _ _ _ _ _ _ _ _))
      have h_read := hs _ _ (fw_ao h_read h_m) h_read
      have h_readPath := hs _ _ (fw_ao h_readPath h_m) h_readPath
      have h_readHome := hs _ _ (fw_ao h_readHome h_m) h_readHome
      have h_readKin := hs _ _ (fw_ao h_readKin h_m) h_readKin
      have h_text := hs _ _ (fw_ao h_text h_m) h_text
      have h_m := t1
      have hE := hE.trans (hs.mono (fun _ z => (Or.inl z)))
      have hL22 : ∀ (r96 : Nat) (y_x_at_96 : Nat) (y_x_readHouses_96 : Nat) (y_x_readPeople_96 : Nat) (y_x_readPaths_96 : Nat) (y_read_96 : Nat → Int32) (y_readPath_96 : Nat → Int32) (y_readHome_96 : Nat → Int32) (y_readKin_96 : Nat → Int32) (w15 : Wd), y_x_readHouses_96 ≤ 4 → y_x_readPeople_96 ≤ 6 → y_x_at_96 ≤ 96 → f_X9_readAll_L96_E x_size text r96 y_x_at_96 y_x_readHouses_96 y_x_readPeople_96 y_x_readPaths_96 y_read_96 y_readPath_96 y_readHome_96 y_readKin_96 = true → (f_X9_readAll x_size read readPath readHome readKin text) = f_X9_readAll_L96 x_size text r96 y_x_at_96 y_x_readHouses_96 y_x_readPeople_96 y_x_readPaths_96 y_read_96 y_readPath_96 y_readHome_96 y_readKin_96 → w15 (B 0) = some (.inr (9, cM B (x_thrown, x_houses, x_people, x_paths, x_acts, x_size, y_x_at_96, y_x_readHouses_96, y_x_readPeople_96, y_x_readPaths_96, x_sights, x_drawn))) → w15 (B 21) = some (.inl (g.2.2.1 0, 43, .inl y_read_96)) → w15 (B 18) = some (.inl (g.2.2.1 0, 16, .inl y_readPath_96)) → w15 (B 19) = some (.inl (g.2.2.1 0, 6, .inl y_readHome_96)) → w15 (B 20) = some (.inl (g.2.2.1 0, 6, .inl y_readKin_96)) → w15 (B 12) = some (.inl (g.2.2.1 0, 96, .inl text)) → wE (fun q => q = (B 0) ∨ q = (B 21) ∨ q = (B 18) ∨ q = (B 19) ∨ q = (B 20)) w0 w15 → V g X 2 w15 0 0 96 [(0, .ref (B 0))] [] := by
        intro r96
        induction r96 with
        | zero =>
          intro y_x_at_96 y_x_readHouses_96 y_x_readPeople_96 y_x_readPaths_96 y_read_96 y_readPath_96 y_readHome_96 y_readKin_96 w15 hr4 hr6 ha9 he ho h_m h_read h_readPath h_readHome h_readKin h_text hE 
          refine vv_aload_n hC 0 dX9_readAll_96 rfl rfl ?_
          refine vv_get (v := .int (nI y_x_at_96)) hC fl_X9_98 dX9_readAll_97 h_m rfl ?_
          refine vv_aload_n hC 0 dX9_readAll_100 rfl rfl ?_
          refine vv_get (v := .int (nI x_size)) hC fl_X9_93 dX9_readAll_101 h_m rfl ?_
          refine vv_icmp_ge hC 119 dX9_readAll_104 (by decide) (fun c16 => ?_) (fun c16 => ?_)
          · have c16 : x_size ≤ y_x_at_96 := (nI_le_ (a := x_size) (b := y_x_at_96) (by omega) (by omega)).mp c16
            refine vv_bipush (v := (-9)) hC dX9_readAll_119 (by decide) ?_
            have hf : (f_X9_readAll x_size read readPath readHome readKin text) = ((-9), y_x_at_96, y_x_readHouses_96, y_x_readPeople_96, y_x_readPaths_96, y_read_96, y_readPath_96, y_readHome_96, y_readKin_96) := ho.trans (by first | (simp only [f_X9_readAll_L96, if_pos c16]; done) | rfl | (simp only [f_X9_readAll_L96, if_pos c16]; rfl))
            refine vv_iret hC hR rfl dX9_readAll_121 (by omega) (by omega) ?_
            rw [hf]
            try dsimp only
            exact ⟨rfl, h_m, h_read, h_readPath, h_readHome, h_readKin, hE⟩
          · have c16 : ¬ (x_size ≤ y_x_at_96) := fun z => c16 ((nI_le_ (a := x_size) (b := y_x_at_96) (by omega) (by omega)).mpr z)
            refine vv_aload_n hC 0 dX9_readAll_107 rfl rfl ?_
            refine vv_callV hC dX9_readAll_108 md_X9_readPart lk_m_X9_150 lk_i_X9_readPart lk_s_X9_readPart h_m rfl (As := []) (rest := []) (c_X9_readPart g w15 B hB x_thrown x_houses x_people x_paths x_acts x_size y_x_at_96 y_x_readHouses_96 y_x_readPeople_96 y_x_readPaths_96 x_sights x_drawn text y_readKin_96 y_readPath_96 y_read_96 y_readHome_96 (by omega) (by omega) (by omega) (by omega) h_m h_text h_readKin h_readPath h_read h_readHome) rfl rfl (Nat.le_of_ble_eq_true rfl) ⟨by decide, by decide, by decide, by decide⟩ (fun r w9 hq => ?_)
            obtain ⟨rfl, t1, t2, t3, t4, t5, hs⟩ := hq
            obtain ⟨w17, rfl⟩ : ∃ z, z = w9 := ⟨_, rfl⟩
            have h_text := hs _ _ (fun z => z.elim (fw_ao h_text h_m) (fun z => z.elim (fw_inj hB (by decide) (by decide) (by decide)) (fun z => z.elim (fw_inj hB (by decide) (by decide) (by decide)) (fun z => z.elim (fw_inj hB (by decide) (by decide) (by decide)) (fw_inj hB (by decide) (by decide) (by decide)))))) h_text
            have h_m := t1
            have h_readKin := t2
            have h_readPath := t3
            have h_read := t4
            have h_readHome := t5
            have hE := hE.trans (hs.mono (fun _ z => z.elim (fun z => (Or.inl z)) (fun z => z.elim (fun z => (Or.inr (Or.inr (Or.inr (Or.inr z))))) (fun z => z.elim (fun z => (Or.inr (Or.inr (Or.inl z)))) (fun z => z.elim (fun z => (Or.inr (Or.inl z))) (fun z => (Or.inr (Or.inr (Or.inr (Or.inl z))))))))))
            show V g X 2 w17 0 0 111 [(0, .ref (B 0))] [.int (bI ((f_X9_readPart x_size y_x_at_96 y_x_readHouses_96 y_x_readPeople_96 y_x_readPaths_96 text y_readKin_96 y_readPath_96 y_read_96 y_readHome_96).1))]
            refine vv_if_ne hC 96 dX9_readAll_111 (by decide) (fun c18 => ?_) (fun c18 => ?_)
            · have c18 : (f_X9_readPart x_size y_x_at_96 y_x_readHouses_96 y_x_readPeople_96 y_x_readPaths_96 text y_readKin_96 y_readPath_96 y_read_96 y_readHome_96).1 = true := bI_t c18
              exact absurd (he.symm.trans (by simp only [f_X9_readAll_L96_E, if_neg c16, if_pos c18] : f_X9_readAll_L96_E x_size text 0 y_x_at_96 y_x_readHouses_96 y_x_readPeople_96 y_x_readPaths_96 y_read_96 y_readPath_96 y_readHome_96 y_readKin_96 = false)) (by decide)
            · have c18 : ¬ ((f_X9_readPart x_size y_x_at_96 y_x_readHouses_96 y_x_readPeople_96 y_x_readPaths_96 text y_readKin_96 y_readPath_96 y_read_96 y_readHome_96).1 = true) := bI_f c18
              refine vv_aload_n hC 0 dX9_readAll_114 rfl rfl ?_
              refine vv_get (v := .int (nI ((f_X9_readPart x_size y_x_at_96 y_x_readHouses_96 y_x_readPeople_96 y_x_readPaths_96 text y_readKin_96 y_readPath_96 y_read_96 y_readHome_96).2.1))) hC fl_X9_98 dX9_readAll_115 h_m rfl ?_
              have hf : (f_X9_readAll x_size read readPath readHome readKin text) = (nI ((f_X9_readPart x_size y_x_at_96 y_x_readHouses_96 y_x_readPeople_96 y_x_readPaths_96 text y_readKin_96 y_readPath_96 y_read_96 y_readHome_96).2.1), (f_X9_readPart x_size y_x_at_96 y_x_readHouses_96 y_x_readPeople_96 y_x_readPaths_96 text y_readKin_96 y_readPath_96 y_read_96 y_readHome_96).2.1, (f_X9_readPart x_size y_x_at_96 y_x_readHouses_96 y_x_readPeople_96 y_x_readPaths_96 text y_readKin_96 y_readPath_96 y_read_96 y_readHome_96).2.2.1, (f_X9_readPart x_size y_x_at_96 y_x_readHouses_96 y_x_readPeople_96 y_x_readPaths_96 text y_readKin_96 y_readPath_96 y_read_96 y_readHome_96).2.2.2.1, (f_X9_readPart x_size y_x_at_96 y_x_readHouses_96 y_x_readPeople_96 y_x_readPaths_96 text y_readKin_96 y_readPath_96 y_read_96 y_readHome_96).2.2.2.2.1, (f_X9_readPart x_size y_x_at_96 y_x_readHouses_96 y_x_readPeople_96 y_x_readPaths_96 text y_readKin_96 y_readPath_96 y_read_96 y_readHome_96).2.2.2.2.2.2.2.1, (f_X9_readPart x_size y_x_at_96 y_x_readHouses_96 y_x_readPeople_96 y_x_readPaths_96 text y_readKin_96 y_readPath_96 y_read_96 y_readHome_96).2.2.2.2.2.2.1, (f_X9_readPart x_size y_x_at_96 y_x_readHouses_96 y_x_readPeople_96 y_x_readPaths_96 text y_readKin_96 y_readPath_96 y_read_96 y_readHome_96).2.2.2.2.2.2.2.2, (f_X9_readPart x_size y_x_at_96 y_x_readHouses_96 y_x_readPeople_96 y_x_readPaths_96 text y_readKin_96 y_readPath_96 y_read_96 y_readHome_96).2.2.2.2.2.1) := ho.trans (by first | (simp only [f_X9_readAll_L96, if_neg c16, if_neg c18]; done) | rfl | (simp only [f_X9_readAll_L96, if_neg c16, if_neg c18]; rfl))
              refine vv_iret hC hR rfl dX9_readAll_118 (by omega) (by omega) ?_
              rw [hf]
              try dsimp only
              exact ⟨rfl, h_m, h_read, h_readPath, h_readHome, h_readKin, hE⟩
        | succ r96 ih =>
          intro y_x_at_96 y_x_readHouses_96 y_x_readPeople_96 y_x_readPaths_96 y_read_96 y_readPath_96 y_readHome_96 y_readKin_96 w15 hr4 hr6 ha9 he ho h_m h_read h_readPath h_readHome h_readKin h_text hE 
          refine vv_aload_n hC 0 dX9_readAll_96 rfl rfl ?_
          refine vv_get (v := .int (nI y_x_at_96)) hC fl_X9_98 dX9_readAll_97 h_m rfl ?_
          refine vv_aload_n hC 0 dX9_readAll_100 rfl rfl ?_
          refine vv_get (v := .int (nI x_size)) hC fl_X9_93 dX9_readAll_101 h_m rfl ?_
          refine vv_icmp_ge hC 119 dX9_readAll_104 (by decide) (fun c19 => ?_) (fun c19 => ?_)
          · have c19 : x_size ≤ y_x_at_96 := (nI_le_ (a := x_size) (b := y_x_at_96) (by omega) (by omega)).mp c19
            refine vv_bipush (v := (-9)) hC dX9_readAll_119 (by decide) ?_
            have hf : (f_X9_readAll x_size read readPath readHome readKin text) = ((-9), y_x_at_96, y_x_readHouses_96, y_x_readPeople_96, y_x_readPaths_96, y_read_96, y_readPath_96, y_readHome_96, y_readKin_96) := ho.trans (by first | (simp only [f_X9_readAll_L96, if_pos c19]; done) | rfl | (simp only [f_X9_readAll_L96, if_pos c19]; rfl))
            refine vv_iret hC hR rfl dX9_readAll_121 (by omega) (by omega) ?_
            rw [hf]
            try dsimp only
            exact ⟨rfl, h_m, h_read, h_readPath, h_readHome, h_readKin, hE⟩
          · have c19 : ¬ (x_size ≤ y_x_at_96) := fun z => c19 ((nI_le_ (a := x_size) (b := y_x_at_96) (by omega) (by omega)).mpr z)
            refine vv_aload_n hC 0 dX9_readAll_107 rfl rfl ?_
            refine vv_callV hC dX9_readAll_108 md_X9_readPart lk_m_X9_150 lk_i_X9_readPart lk_s_X9_readPart h_m rfl (As := []) (rest := []) (c_X9_readPart g w15 B hB x_thrown x_houses x_people x_paths x_acts x_size y_x_at_96 y_x_readHouses_96 y_x_readPeople_96 y_x_readPaths_96 x_sights x_drawn text y_readKin_96 y_readPath_96 y_read_96 y_readHome_96 (by omega) (by omega) (by omega) (by omega) h_m h_text h_readKin h_readPath h_read h_readHome) rfl rfl (Nat.le_of_ble_eq_true rfl) ⟨by decide, by decide, by decide, by decide⟩ (fun r w9 hq => ?_)
            obtain ⟨rfl, t1, t2, t3, t4, t5, hs⟩ := hq
            obtain ⟨w20, rfl⟩ : ∃ z, z = w9 := ⟨_, rfl⟩
            have h_text := hs _ _ (fun z => z.elim (fw_ao h_text h_m) (fun z => z.elim (fw_inj hB (by decide) (by decide) (by decide)) (fun z => z.elim (fw_inj hB (by decide) (by decide) (by decide)) (fun z => z.elim (fw_inj hB (by decide) (by decide) (by decide)) (fw_inj hB (by decide) (by decide) (by decide)))))) h_text
            have h_m := t1
            have h_readKin := t2
            have h_readPath := t3
            have h_read := t4
            have h_readHome := t5
            have hE := hE.trans (hs.mono (fun _ z => z.elim (fun z => (Or.inl z)) (fun z => z.elim (fun z => (Or.inr (Or.inr (Or.inr (Or.inr z))))) (fun z => z.elim (fun z => (Or.inr (Or.inr (Or.inl z)))) (fun z => z.elim (fun z => (Or.inr (Or.inl z))) (fun z => (Or.inr (Or.inr (Or.inr (Or.inl z))))))))))
            show V g X 2 w20 0 0 111 [(0, .ref (B 0))] [.int (bI ((f_X9_readPart x_size y_x_at_96 y_x_readHouses_96 y_x_readPeople_96 y_x_readPaths_96 text y_readKin_96 y_readPath_96 y_read_96 y_readHome_96).1))]
            refine vv_if_ne hC 96 dX9_readAll_111 (by decide) (fun c21 => ?_) (fun c21 => ?_)
            · have c21 : (f_X9_readPart x_size y_x_at_96 y_x_readHouses_96 y_x_readPeople_96 y_x_readPaths_96 text y_readKin_96 y_readPath_96 y_read_96 y_readHome_96).1 = true := bI_t c21
              exact ih ((f_X9_readPart x_size y_x_at_96 y_x_readHouses_96 y_x_readPeople_96 y_x_readPaths_96 text y_readKin_96 y_readPath_96 y_read_96 y_readHome_96).2.1) ((f_X9_readPart x_size y_x_at_96 y_x_readHouses_96 y_x_readPeople_96 y_x_readPaths_96 text y_readKin_96 y_readPath_96 y_read_96 y_readHome_96).2.2.1) ((f_X9_readPart x_size y_x_at_96 y_x_readHouses_96 y_x_readPeople_96 y_x_readPaths_96 text y_readKin_96 y_readPath_96 y_read_96 y_readHome_96).2.2.2.1) ((f_X9_readPart x_size y_x_at_96 y_x_readHouses_96 y_x_readPeople_96 y_x_readPaths_96 text y_readKin_96 y_readPath_96 y_read_96 y_readHome_96).2.2.2.2.1) ((f_X9_readPart x_size y_x_at_96 y_x_readHouses_96 y_x_readPeople_96 y_x_readPaths_96 text y_readKin_96 y_readPath_96 y_read_96 y_readHome_96).2.2.2.2.2.2.2.1) ((f_X9_readPart x_size y_x_at_96 y_x_readHouses_96 y_x_readPeople_96 y_x_readPaths_96 text y_readKin_96 y_readPath_96 y_read_96 y_readHome_96).2.2.2.2.2.2.1) ((f_X9_readPart x_size y_x_at_96 y_x_readHouses_96 y_x_readPeople_96 y_x_readPaths_96 text y_readKin_96 y_readPath_96 y_read_96 y_readHome_96).2.2.2.2.2.2.2.2) ((f_X9_readPart x_size y_x_at_96 y_x_readHouses_96 y_x_readPeople_96 y_x_readPaths_96 text y_readKin_96 y_readPath_96 y_read_96 y_readHome_96).2.2.2.2.2.1) w20 ((readPart_b (by omega) hsz hr4 hr6).2.2.1) ((readPart_b (by omega) hsz hr4 hr6).2.2.2.1) ((readPart_b (by omega) hsz hr4 hr6).2.1) (Eq.trans (Eq.symm (by first | (simp only [f_X9_readAll_L96_E, if_neg c19, if_pos c21]; done) | rfl : f_X9_readAll_L96_E x_size text (r96 + 1) y_x_at_96 y_x_readHouses_96 y_x_readPeople_96 y_x_readPaths_96 y_read_96 y_readPath_96 y_readHome_96 y_readKin_96 = f_X9_readAll_L96_E x_size text r96 ((f_X9_readPart x_size y_x_at_96 y_x_readHouses_96 y_x_readPeople_96 y_x_readPaths_96 text y_readKin_96 y_readPath_96 y_read_96 y_readHome_96).2.1) ((f_X9_readPart x_size y_x_at_96 y_x_readHouses_96 y_x_readPeople_96 y_x_readPaths_96 text y_readKin_96 y_readPath_96 y_read_96 y_readHome_96).2.2.1) ((f_X9_readPart x_size y_x_at_96 y_x_readHouses_96 y_x_readPeople_96 y_x_readPaths_96 text y_readKin_96 y_readPath_96 y_read_96 y_readHome_96).2.2.2.1) ((f_X9_readPart x_size y_x_at_96 y_x_readHouses_96 y_x_readPeople_96 y_x_readPaths_96 text y_readKin_96 y_readPath_96 y_read_96 y_readHome_96).2.2.2.2.1) ((f_X9_readPart x_size y_x_at_96 y_x_readHouses_96 y_x_readPeople_96 y_x_readPaths_96 text y_readKin_96 y_readPath_96 y_read_96 y_readHome_96).2.2.2.2.2.2.2.1) ((f_X9_readPart x_size y_x_at_96 y_x_readHouses_96 y_x_readPeople_96 y_x_readPaths_96 text y_readKin_96 y_readPath_96 y_read_96 y_readHome_96).2.2.2.2.2.2.1) ((f_X9_readPart x_size y_x_at_96 y_x_readHouses_96 y_x_readPeople_96 y_x_readPaths_96 text y_readKin_96 y_readPath_96 y_read_96 y_readHome_96).2.2.2.2.2.2.2.2) ((f_X9_readPart x_size y_x_at_96 y_x_readHouses_96 y_x_readPeople_96 y_x_readPaths_96 text y_readKin_96 y_readPath_96 y_read_96 y_readHome_96).2.2.2.2.2.1))) he) (ho.trans (by first | (simp only [f_X9_readAll_L96, if_neg c19, if_pos c21]; done) | rfl | (simp only [f_X9_readAll_L96, if_neg c19, if_pos c21]; rfl))) h_m h_read h_readPath h_readHome h_readKin h_text hE
            · have c21 : ¬ ((f_X9_readPart x_size y_x_at_96 y_x_readHouses_96 y_x_readPeople_96 y_x_readPaths_96 text y_readKin_96 y_readPath_96 y_read_96 y_readHome_96).1 = true) := bI_f c21
              refine vv_aload_n hC 0 dX9_readAll_114 rfl rfl ?_
              refine vv_get (v := .int (nI ((f_X9_readPart x_size y_x_at_96 y_x_readHouses_96 y_x_readPeople_96 y_x_readPaths_96 text y_readKin_96 y_readPath_96 y_read_96 y_readHome_96).2.1))) hC fl_X9_98 dX9_readAll_115 h_m rfl ?_
              have hf : (f_X9_readAll x_size read readPath readHome readKin text) = (nI ((f_X9_readPart x_size y_x_at_96 y_x_readHouses_96 y_x_readPeople_96 y_x_readPaths_96 text y_readKin_96 y_readPath_96 y_read_96 y_readHome_96).2.1), (f_X9_readPart x_size y_x_at_96 y_x_readHouses_96 y_x_readPeople_96 y_x_readPaths_96 text y_readKin_96 y_readPath_96 y_read_96 y_readHome_96).2.1, (f_X9_readPart x_size y_x_at_96 y_x_readHouses_96 y_x_readPeople_96 y_x_readPaths_96 text y_readKin_96 y_readPath_96 y_read_96 y_readHome_96).2.2.1, (f_X9_readPart x_size y_x_at_96 y_x_readHouses_96 y_x_readPeople_96 y_x_readPaths_96 text y_readKin_96 y_readPath_96 y_read_96 y_readHome_96).2.2.2.1, (f_X9_readPart x_size y_x_at_96 y_x_readHouses_96 y_x_readPeople_96 y_x_readPaths_96 text y_readKin_96 y_readPath_96 y_read_96 y_readHome_96).2.2.2.2.1, (f_X9_readPart x_size y_x_at_96 y_x_readHouses_96 y_x_readPeople_96 y_x_readPaths_96 text y_readKin_96 y_readPath_96 y_read_96 y_readHome_96).2.2.2.2.2.2.2.1, (f_X9_readPart x_size y_x_at_96 y_x_readHouses_96 y_x_readPeople_96 y_x_readPaths_96 text y_readKin_96 y_readPath_96 y_read_96 y_readHome_96).2.2.2.2.2.2.1, (f_X9_readPart x_size y_x_at_96 y_x_readHouses_96 y_x_readPeople_96 y_x_readPaths_96 text y_readKin_96 y_readPath_96 y_read_96 y_readHome_96).2.2.2.2.2.2.2.2, (f_X9_readPart x_size y_x_at_96 y_x_readHouses_96 y_x_readPeople_96 y_x_readPaths_96 text y_readKin_96 y_readPath_96 y_read_96 y_readHome_96).2.2.2.2.2.1) := ho.trans (by first | (simp only [f_X9_readAll_L96, if_neg c19, if_neg c21]; done) | rfl | (simp only [f_X9_readAll_L96, if_neg c19, if_neg c21]; rfl))
              refine vv_iret hC hR rfl dX9_readAll_118 (by omega) (by omega) ?_
              rw [hf]
              try dsimp only
              exact ⟨rfl, h_m, h_read, h_readPath, h_readHome, h_readKin, hE⟩
      exact hL22 fuelT 1 0 0 0 ((f_X9_readAll_L17 43 0 read readPath readHome readKin).1) ((f_X9_readAll_L17 43 0 read readPath readHome readKin).2.1) ((f_X9_readAll_L17 43 0 read readPath readHome readKin).2.2.1) ((f_X9_readAll_L17 43 0 read readPath readHome readKin).2.2.2) w14 (by omega) (by omega) (by omega) (ra_E hsz fuelT 1 0 0 0 _ _ _ _ (by decide) (by decide) (by decide) (by show _ ≤ _ + 100; omega)) (by first | (simp only [f_X9_readAll, if_neg c12, if_pos c13]; done) | rfl | (simp only [f_X9_readAll, if_neg c12, if_pos c13]; rfl)) h_m h_read h_readPath h_readHome h_readKin h_text hE
    · have c13 : ¬ (text 0 = 86) := c13
      refine vv_iconst (v := 0) hC dX9_readAll_89 (by decide) ?_
      have hf : (f_X9_readAll x_size read readPath readHome readKin text) = (0, 0, 0, 0, 0, (f_X9_readAll_L17 43 0 read readPath readHome readKin).1, (f_X9_readAll_L17 43 0 read readPath readHome readKin).2.1, (f_X9_readAll_L17 43 0 read readPath readHome readKin).2.2.1, (f_X9_readAll_L17 43 0 read readPath readHome readKin).2.2.2) := by first | (simp only [f_X9_readAll, if_neg c12, if_neg c13]; done) | rfl | (simp only [f_X9_readAll, if_neg c12, if_neg c13]; rfl)
      refine vv_iret hC hR rfl dX9_readAll_90 (by omega) (by omega) ?_
      rw [hf]
      try dsimp only
      exact ⟨rfl, h_m, h_read, h_readPath, h_readHome, h_readKin, hE⟩
def f_X9_fault (x_size : Nat) (read : Nat → Int32) (readPath : Nat → Int32) (readHome : Nat → Int32) (readKin : Nat → Int32) (text : Nat → Int32) : Int32 × Int32 × Nat × Nat × Nat × Nat × (Nat → Int32) × (Nat → Int32) × (Nat → Int32) × (Nat → Int32) := ((f_X9_readAll x_size read readPath readHome readKin text).1, 0, (f_X9_readAll x_size read readPath readHome readKin text).2.1, (f_X9_readAll x_size read readPath readHome readKin text).2.2.1, (f_X9_readAll x_size read readPath readHome readKin text).2.2.2.1, (f_X9_readAll x_size read readPath readHome readKin text).2.2.2.2.1, (f_X9_readAll x_size read readPath readHome readKin text).2.2.2.2.2.1, (f_X9_readAll x_size read readPath readHome readKin text).2.2.2.2.2.2.1, (f_X9_readAll x_size read readPath readHome readKin text).2.2.2.2.2.2.2.1, (f_X9_readAll x_size read readPath readHome readKin text).2.2.2.2.2.2.2.2)
set_option maxHeartbeats 4000000 in
set_option maxRecDepth 100000 in
theorem c_X9_fault (g : GT) (w0 : Wd) (B : Nat → Nat) (hB : ∀ i j, i < 60 → j < 60 → B i = B j → i = j) (x_thrown : Int32) (x_houses : Nat) (x_people : Nat) (x_paths : Nat) (x_acts : Nat) (x_size : Nat) (x_at : Nat) (x_readHouses : Nat) (x_readPeople : Nat) (x_readPaths : Nat) (x_sights : Nat) (x_drawn : Int64) (read : Nat → Int32) (readPath : Nat → Int32) (readHome : Nat → Int32) (readKin : Nat → Int32) (text : Nat → Int32) (hsz : x_size ≤ 96) (h_m : w0 (B 0) = some (.inr (9, cM B (x_thrown, x_houses, x_people, x_paths, x_acts, x_size, x_at, x_readHouses, x_readPeople, x_readPaths, x_sights, x_drawn)))) (h_read : w0 (B 21) = some (.inl (g.2.2.1 0, 43, .inl read))) (h_readPath : w0 (B 18) = some (.inl (g.2.2.1 0, 16, .inl readPath))) (h_readHome : w0 (B 19) = some (.inl (g.2.2.1 0, 6, .inl readHome))) (h_readKin : w0 (B 20) = some (.inl (g.2.2.1 0, 6, .inl readKin))) (h_text : w0 (B 12) = some (.inl (g.2.2.1 0, 96, .inl text))) : CT g yX9_fault cX9_fault 1 (some .int) 6 132 0 0 w0 [.ref (B 0)] (fun r w2 => r = some (.int ((f_X9_fault x_size read readPath readHome readKin text).1)) ∧ w2 (B 0) = some (.inr (9, cM B ((f_X9_fault x_size read readPath readHome readKin text).2.1, x_houses, x_people, x_paths, x_acts, x_size, (f_X9_fault x_size read readPath readHome readKin text).2.2.1, (f_X9_fault x_size read readPath readHome readKin text).2.2.2.1, (f_X9_fault x_size read readPath readHome readKin text).2.2.2.2.1, (f_X9_fault x_size read readPath readHome readKin text).2.2.2.2.2.1, x_sights, x_drawn))) ∧ w2 (B 21) = some (.inl (g.2.2.1 0, 43, .inl ((f_X9_fault x_size read readPath readHome readKin text).2.2.2.2.2.2.1))) ∧ w2 (B 18) = some (.inl (g.2.2.1 0, 16, .inl ((f_X9_fault x_size read readPath readHome readKin text).2.2.2.2.2.2.2.1))) ∧ w2 (B 19) = some (.inl (g.2.2.1 0, 6, .inl ((f_X9_fault x_size read readPath readHome readKin text).2.2.2.2.2.2.2.2.1))) ∧ w2 (B 20) = some (.inl (g.2.2.1 0, 6, .inl ((f_X9_fault x_size read readPath readHome readKin text).2.2.2.2.2.2.2.2.2))) ∧ wE (fun q => q = (B 0) ∨ q = (B 21) ∨ q = (B 18) ∨ q = (B 19) ∨ q = (B 20)) w0 w2) := by
  refine CT.of (own := RX9) (by decide +kernel) rfl (Nat.le_of_ble_eq_true rfl) (fun X hC hR hI => ?_)
  show V g X 1 w0 0 0 0 [(0, .ref (B 0))] []
  have hE : wE (fun q => q = (B 0) ∨ q = (B 21) ∨ q = (B 18) ∨ q = (B 19) ∨ q = (B 20)) w0 w0 := wE.refl
  refine vv_aload_n hC 0 dX9_fault_0 rfl rfl ?_
  refine vv_iconst (v := 0) hC dX9_fault_1 (by decide) ?_
  refine vv_put hC fp_X9_69 dX9_fault_2 h_m rfl rfl (Nat.le_of_ble_eq_true rfl) (fun w1 t1 hs => ?_)
  have t1 : w1 (B 0) = some (.inr (9, cM B (0, x_houses, x_people, x_paths, x_acts, x_size, x_at, x_readHouses, x_readPeople, x_readPaths, x_sights, x_drawn))) := t1.trans (congrArg (fun z => some (Sum.inr (9, z))) (eM_thrown _ _ _ _ _ _ _ _ _ _ _ _ _ _))
  have h_read := hs _ _ (fw_ao h_read h_m) h_read
  have h_readPath := hs _ _ (fw_ao h_readPath h_m) h_readPath
  have h_readHome := hs _ _ (fw_ao h_readHome h_m) h_readHome
  have h_readKin := hs _ _ (fw_ao h_readKin h_m) h_readKin
  have h_text := hs _ _ (fw_ao h_text h_m) h_text
  have h_m := t1
  have hE := hE.trans (hs.mono (fun _ z => (Or.inl z)))
  refine vv_aload_n hC 0 dX9_fault_5 rfl rfl ?_
  refine vv_callV hC dX9_fault_6 md_X9_readAll lk_m_X9_153 lk_i_X9_readAll lk_s_X9_readAll h_m rfl (As := []) (rest := []) (c_X9_readAll g w1 B hB 0 x_houses x_people x_paths x_acts x_size x_at x_readHouses x_readPeople x_readPaths x_sights x_drawn read readPath readHome readKin text (by omega) h_m h_read h_readPath h_readHome h_readKin h_text) rfl rfl (Nat.le_of_ble_eq_true rfl) ⟨by decide, by decide, by decide, by decide⟩ (fun r w9 hq => ?_)
  obtain ⟨rfl, t1, t2, t3, t4, t5, hs⟩ := hq
  obtain ⟨w2, rfl⟩ : ∃ z, z = w9 := ⟨_, rfl⟩
  have h_text := hs _ _ (fun z => z.elim (fw_ao h_text h_m) (fun z => z.elim (fw_inj hB (by decide) (by decide) (by decide)) (fun z => z.elim (fw_inj hB (by decide) (by decide) (by decide)) (fun z => z.elim (fw_inj hB (by decide) (by decide) (by decide)) (fw_inj hB (by decide) (by decide) (by decide)))))) h_text
  have h_m := t1
  have h_read := t2
  have h_readPath := t3
  have h_readHome := t4
  have h_readKin := t5
  have hE := hE.trans (hs.mono (fun _ z => z.elim (fun z => (Or.inl z)) (fun z => z.elim (fun z => (Or.inr (Or.inl z))) (fun z => z.elim (fun z => (Or.inr (Or.inr (Or.inl z)))) (fun z => z.elim (fun z => (Or.inr (Or.inr (Or.inr (Or.inl z))))) (fun z => (Or.inr (Or.inr (Or.inr (Or.inr z))))))))))
  show V g X 1 w2 0 0 9 [(0, .ref (B 0))] [.int ((f_X9_readAll x_size read readPath readHome readKin text).1)]
  have hf : (f_X9_fault x_size read readPath readHome readKin text) = ((f_X9_readAll x_size read readPath readHome readKin text).1, 0, (f_X9_readAll x_size read readPath readHome readKin text).2.1, (f_X9_readAll x_size read readPath readHome readKin text).2.2.1, (f_X9_readAll x_size read readPath readHome readKin text).2.2.2.1, (f_X9_readAll x_size read readPath readHome readKin text).2.2.2.2.1, (f_X9_readAll x_size read readPath readHome readKin text).2.2.2.2.2.1, (f_X9_readAll x_size read readPath readHome readKin text).2.2.2.2.2.2.1, (f_X9_readAll x_size read readPath readHome readKin text).2.2.2.2.2.2.2.1, (f_X9_readAll x_size read readPath readHome readKin text).2.2.2.2.2.2.2.2) := by first | (simp only [f_X9_fault]; done) | rfl | (simp only [f_X9_fault]; rfl)
  refine vv_iret hC hR rfl dX9_fault_9 (by omega) (by omega) ?_
  rw [hf]
  try dsimp only
  exact ⟨rfl, h_m, h_read, h_readPath, h_readHome, h_readKin, hE⟩
def f_X9_village_L43 (x_size : Nat) (read : Nat → Int32) (readPath : Nat → Int32) (readHome : Nat → Int32) (readKin : Nat → Int32) (text : Nat → Int32) : Nat → Nat → (Nat → Int32) → (Nat → Int32) → (Nat → Int32) → (Nat → Int32) → (Nat → Int32) × (Nat → Int32) × (Nat → Int32) × (Nat → Int32)
  | 0, k43, y_now_43, y_path_43, y_home_43, y_kin_43 => (y_now_43, y_path_43, y_home_43, y_kin_43)
  | r43 + 1, k43, y_now_43, y_path_43, y_home_43, y_kin_43 => f_X9_village_L43 x_size read readPath readHome readKin text r43 (k43 + 1) (upd y_now_43 k43 (((f_X9_readAll x_size read readPath readHome readKin text).2.2.2.2.2.1) k43)) (upd y_path_43 (k43 % 16) (((f_X9_readAll x_size read readPath readHome readKin text).2.2.2.2.2.2.1) (k43 % 16))) (upd y_home_43 (k43 % 6) (((f_X9_readAll x_size read readPath readHome readKin text).2.2.2.2.2.2.2.1) (k43 % 6))) (upd y_kin_43 (k43 % 6) (((f_X9_readAll x_size read readPath readHome readKin text).2.2.2.2.2.2.2.2) (k43 % 6)))
def f_X9_village (x_houses : Nat) (x_people : Nat) (x_paths : Nat) (x_acts : Nat) (x_size : Nat) (read : Nat → Int32) (readPath : Nat → Int32) (readHome : Nat → Int32) (readKin : Nat → Int32) (text : Nat → Int32) (now : Nat → Int32) (path : Nat → Int32) (home : Nat → Int32) (kin : Nat → Int32) (isKept : Nat → Int32) : Int32 × Int32 × Nat × Nat × Nat × Nat × Nat × Nat × Nat × Nat × (Nat → Int32) × (Nat → Int32) × (Nat → Int32) × (Nat → Int32) × (Nat → Int32) × (Nat → Int32) × (Nat → Int32) × (Nat → Int32) × (Nat → Int32) := (if (f_X9_readAll x_size read readPath readHome readKin text).1 = (-9) then (nI (10 * ((f_X9_readAll x_size read readPath readHome readKin text).2.2.1) + (f_X9_readAll x_size read readPath readHome readKin text).2.2.2.1), 0, (f_X9_readAll x_size read readPath readHome readKin text).2.2.1, (f_X9_readAll x_size read readPath readHome readKin text).2.2.2.1, (f_X9_readAll x_size read readPath readHome readKin text).2.2.2.2.1, 0, (f_X9_readAll x_size read readPath readHome readKin text).2.1, (f_X9_readAll x_size read readPath readHome readKin text).2.2.1, (f_X9_readAll x_size read readPath readHome readKin text).2.2.2.1, (f_X9_readAll x_size read readPath readHome readKin text).2.2.2.2.1, (f_X9_readAll x_size read readPath readHome readKin text).2.2.2.2.2.1, (f_X9_readAll x_size read readPath readHome readKin text).2.2.2.2.2.2.1, (f_X9_readAll x_size read readPath readHome readKin text).2.2.2.2.2.2.2.1, (f_X9_readAll x_size read readPath readHome readKin text).2.2.2.2.2.2.2.2, (f_X9_village_L43 x_size read readPath readHome readKin text 43 0 now path home kin).1, (f_X9_village_L43 x_size read readPath readHome readKin text 43 0 now path home kin).2.1, (f_X9_village_L43 x_size read readPath readHome readKin text 43 0 now path home kin).2.2.1, (f_X9_village_L43 x_size read readPath readHome readKin text 43 0 now path home kin).2.2.2, upd (upd isKept 0 (vp_nar .boolean 0)) 1 (vp_nar .boolean 0)) else ((-3), 0, x_houses, x_people, x_paths, x_acts, (f_X9_readAll x_size read readPath readHome readKin text).2.1, (f_X9_readAll x_size read readPath readHome readKin text).2.2.1, (f_X9_readAll x_size read readPath readHome readKin text).2.2.2.1, (f_X9_readAll x_size read readPath readHome readKin text).2.2.2.2.1, (f_X9_readAll x_size read readPath readHome readKin text).2.2.2.2.2.1, (f_X9_readAll x_size read readPath readHome readKin text).2.2.2.2.2.2.1, (f_X9_readAll x_size read readPath readHome readKin text).2.2.2.2.2.2.2.1, (f_X9_readAll x_size read readPath readHome readKin text).2.2.2.2.2.2.2.2, now, path, home, kin, isKept))
set_option maxHeartbeats 4000000 in
set_option maxRecDepth 100000 in
theorem c_X9_village (g : GT) (w0 : Wd) (B : Nat → Nat) (hB : ∀ i j, i < 60 → j < 60 → B i = B j → i = j) (x_thrown : Int32) (x_houses : Nat) (x_people : Nat) (x_paths : Nat) (x_acts : Nat) (x_size : Nat) (x_at : Nat) (x_readHouses : Nat) (x_readPeople : Nat) (x_readPaths : Nat) (x_sights : Nat) (x_drawn : Int64) (read : Nat → Int32) (readPath : Nat → Int32) (readHome : Nat → Int32) (readKin : Nat → Int32) (text : Nat → Int32) (now : Nat → Int32) (path : Nat → Int32) (home : Nat → Int32) (kin : Nat → Int32) (isKept : Nat → Int32) (hsz : x_size ≤ 96) (h_m : w0 (B 0) = some (.inr (9, cM B (x_thrown, x_houses, x_people, x_paths, x_acts, x_size, x_at, x_readHouses, x_readPeople, x_readPaths, x_sights, x_drawn)))) (h_read : w0 (B 21) = some (.inl (g.2.2.1 0, 43, .inl read))) (h_readPath : w0 (B 18) = some (.inl (g.2.2.1 0, 16, .inl readPath))) (h_readHome : w0 (B 19) = some (.inl (g.2.2.1 0, 6, .inl readHome))) (h_readKin : w0 (B 20) = some (.inl (g.2.2.1 0, 6, .inl readKin))) (h_text : w0 (B 12) = some (.inl (g.2.2.1 0, 96, .inl text))) (h_now : w0 (B 7) = some (.inl (g.2.2.1 0, 43, .inl now))) (h_path : w0 (B 4) = some (.inl (g.2.2.1 0, 16, .inl path))) (h_home : w0 (B 5) = some (.inl (g.2.2.1 0, 6, .inl home))) (h_kin : w0 (B 6) = some (.inl (g.2.2.1 0, 6, .inl kin))) (h_isKept : w0 (B 11) = some (.inl (g.2.2.1 3, 2, .inl isKept))) : CT g yX9_village cX9_village 2 (some .int) 6 132 0 0 w0 [.ref (B 0)] (fun r w2 => r = some (.int ((f_X9_village x_houses x_people x_paths x_acts x_size read readPath readHome readKin text now path home kin isKept).1)) ∧ w2 (B 0) = some (.inr (9, cM B ((f_X9_village x_houses x_people x_paths x_acts x_size read readPath readHome readKin text now path home kin isKept).2.1, (f_X9_village x_houses x_people x_paths x_acts x_size read readPath readHome readKin text now path home kin isKept).2.2.1, (f_X9_village x_houses x_people x_paths x_acts x_size read readPath readHome readKin text now path home kin isKept).2.2.2.1, (f_X9_village x_houses x_people x_paths x_acts x_size read readPath readHome readKin text now path home kin isKept).2.2.2.2.1, (f_X9_village x_houses x_people x_paths x_acts x_size read readPath readHome readKin text now path home kin isKept).2.2.2.2.2.1, x_size, (f_X9_village x_houses x_people x_paths x_acts x_size read readPath readHome readKin text now path home kin isKept).2.2.2.2.2.2.1, (f_X9_village x_houses x_people x_paths x_acts x_size read readPath readHome readKin text now path home kin isKept).2.2.2.2.2.2.2.1, (f_X9_village x_houses x_people x_paths x_acts x_size read readPath readHome readKin text now path home kin isKept).2.2.2.2.2.2.2.2.1, (f_X9_village x_houses x_people x_paths x_acts x_size read readPath readHome readKin text now path home kin isKept).2.2.2.2.2.2.2.2.2.1, x_sights, x_drawn))) ∧ w2 (B 21) = some (.inl (g.2.2.1 0, 43, .inl ((f_X9_village x_houses x_people x_paths x_acts x_size read readPath readHome readKin text now path home kin isKept).2.2.2.2.2.2.2.2.2.2.1))) ∧ w2 (B 18) = some (.inl (g.2.2.1 0, 16, .inl ((f_X9_village x_houses x_people x_paths x_acts x_size read readPath readHome readKin text now path home kin isKept).2.2.2.2.2.2.2.2.2.2.2.1))) ∧ w2 (B 19) = some (.inl (g.2.2.1 0, 6, .inl ((f_X9_village x_houses x_people x_paths x_acts x_size read readPath readHome readKin text now path home kin isKept).2.2.2.2.2.2.2.2.2.2.2.2.1))) ∧ w2 (B 20) = some (.inl (g.2.2.1 0, 6, .inl ((f_X9_village x_houses x_people x_paths x_acts x_size read readPath readHome readKin text now path home kin isKept).2.2.2.2.2.2.2.2.2.2.2.2.2.1))) ∧ w2 (B 7) = some (.inl (g.2.2.1 0, 43, .inl ((f_X9_village x_houses x_people x_paths x_acts x_size read readPath readHome readKin text now path home kin isKept).2.2.2.2.2.2.2.2.2.2.2.2.2.2.1))) ∧ w2 (B 4) = some (.inl (g.2.2.1 0, 16, .inl ((f_X9_village x_houses x_people x_paths x_acts x_size read readPath readHome readKin text now path home kin isKept).2.2.2.2.2.2.2.2.2.2.2.2.2.2.2.1))) ∧ w2 (B 5) = some (.inl (g.2.2.1 0, 6, .inl ((f_X9_village x_houses x_people x_paths x_acts x_size read readPath readHome readKin text now path home kin isKept).2.2.2.2.2.2.2.2.2.2.2.2.2.2.2.2.1))) ∧ w2 (B 6) = some (.inl (g.2.2.1 0, 6, .inl ((f_X9_village x_houses x_people x_paths x_acts x_size read readPath readHome readKin text now path home kin isKept).2.2.2.2.2.2.2.2.2.2.2.2.2.2.2.2.2.1))) ∧ w2 (B 11) = some (.inl (g.2.2.1 3, 2, .inl ((f_X9_village x_houses x_people x_paths x_acts x_size read readPath readHome readKin text now path home kin isKept).2.2.2.2.2.2.2.2.2.2.2.2.2.2.2.2.2.2))) ∧ wE (fun q => q = (B 0) ∨ q = (B 21) ∨ q = (B 18) ∨ q = (B 19) ∨ q = (B 20) ∨ q = (B 7) ∨ q = (B 4) ∨ q = (B 5) ∨ q = (B 6) ∨ q = (B 11)) w0 w2) := by
  refine CT.of (own := RX9) (by decide +kernel) rfl (Nat.le_of_ble_eq_true rfl) (fun X hC hR hI => ?_)
  show V g X 2 w0 0 0 0 [(0, .ref (B 0))] []
  have hE : wE (fun q => q = (B 0) ∨ q = (B 21) ∨ q = (B 18) ∨ q = (B 19) ∨ q = (B 20) ∨ q = (B 7) ∨ q = (B 4) ∨ q = (B 5) ∨ q = (B 6) ∨ q = (B 11)) w0 w0 := wE.refl
  refine vv_aload_n hC 0 dX9_village_0 rfl rfl ?_
  refine vv_iconst (v := 0) hC dX9_village_1 (by decide) ?_
  refine vv_put hC fp_X9_69 dX9_village_2 h_m rfl rfl (Nat.le_of_ble_eq_true rfl) (fun w1 t1 hs => ?_)
  have t1 : w1 (B 0) = some (.inr (9, cM B (0, x_houses, x_people, x_paths, x_acts, x_size, x_at, x_readHouses, x_readPeople, x_readPaths, x_sights, x_drawn))) := t1.trans (congrArg (fun z => some (Sum.inr (9, z))) (eM_thrown _ _ _ _ _ _ _ _ _ _ _ _ _ _))
  have h_read := hs _ _ (fw_ao h_read h_m) h_read
  have h_readPath := hs _ _ (fw_ao h_readPath h_m) h_readPath
  have h_readHome := hs _ _ (fw_ao h_readHome h_m) h_readHome
  have h_readKin := hs _ _ (fw_ao h_readKin h_m) h_readKin
  have h_text := hs _ _ (fw_ao h_text h_m) h_text
  have h_now := hs _ _ (fw_ao h_now h_m) h_now
  have h_path := hs _ _ (fw_ao h_path h_m) h_path
  have h_home := hs _ _ (fw_ao h_home h_m) h_home
  have h_kin := hs _ _ (fw_ao h_kin h_m) h_kin
  have h_isKept := hs _ _ (fw_ao h_isKept h_m) h_isKept
  have h_m := t1
  have hE := hE.trans (hs.mono (fun _ z => (Or.inl z)))
  refine vv_aload_n hC 0 dX9_village_5 rfl rfl ?_
  refine vv_callV hC dX9_village_6 md_X9_readAll lk_m_X9_153 lk_i_X9_readAll lk_s_X9_readAll h_m rfl (As := []) (rest := []) (c_X9_readAll g w1 B hB 0 x_houses x_people x_paths x_acts x_size x_at x_readHouses x_readPeople x_readPaths x_sights x_drawn read readPath readHome readKin text (by omega) h_m h_read h_readPath h_readHome h_readKin h_text) rfl rfl (Nat.le_of_ble_eq_true rfl) ⟨by decide, by decide, by decide, by decide⟩ (fun r w9 hq => ?_)
  obtain ⟨rfl, t1, t2, t3, t4, t5, hs⟩ := hq
  obtain ⟨w2, rfl⟩ : ∃ z, z = w9 := ⟨_, rfl⟩
  have h_text := hs _ _ (fun z => z.elim (fw_ao h_text h_m) (fun z => z.elim (fw_inj hB (by decide) (by decide) (by decide)) (fun z => z.elim (fw_inj hB (by decide) (by decide) (by decide)) (fun z => z.elim (fw_inj hB (by decide) (by decide) (by decide)) (fw_inj hB (by decide) (by decide) (by decide)))))) h_text
  have h_now := hs _ _ (fun z => z.elim (fw_ao h_now h_m) (fun z => z.elim (fw_inj hB (by decide) (by decide) (by decide)) (fun z => z.elim (fw_inj hB (by decide) (by decide) (by decide)) (fun z => z.elim (fw_inj hB (by decide) (by decide) (by decide)) (fw_inj hB (by decide) (by decide) (by decide)))))) h_now
  have h_path := hs _ _ (fun z => z.elim (fw_ao h_path h_m) (fun z => z.elim (fw_inj hB (by decide) (by decide) (by decide)) (fun z => z.elim (fw_inj hB (by decide) (by decide) (by decide)) (fun z => z.elim (fw_inj hB (by decide) (by decide) (by decide)) (fw_inj hB (by decide) (by decide) (by decide)))))) h_path
  have h_home := hs _ _ (fun z => z.elim (fw_ao h_home h_m) (fun z => z.elim (fw_inj hB (by decide) (by decide) (by decide)) (fun z => z.elim (fw_inj hB (by decide) (by decide) (by decide)) (fun z => z.elim (fw_inj hB (by decide) (by decide) (by decide)) (fw_inj hB (by decide) (by decide) (by decide)))))) h_home
  have h_kin := hs _ _ (fun z => z.elim (fw_ao h_kin h_m) (fun z => z.elim (fw_inj hB (by decide) (by decide) (by decide)) (fun z => z.elim (fw_inj hB (by decide) (by decide) (by decide)) (fun z => z.elim (fw_inj hB (by decide) (by decide) (by decide)) (fw_inj hB (by decide) (by decide) (by decide)))))) h_kin
  have h_isKept := hs _ _ (fun z => z.elim (fw_ao h_isKept h_m) (fun z => z.elim (fw_inj hB (by decide) (by decide) (by decide)) (fun z => z.elim (fw_inj hB (by decide) (by decide) (by decide)) (fun z => z.elim (fw_inj hB (by decide) (by decide) (by decide)) (fw_inj hB (by decide) (by decide) (by decide)))))) h_isKept
  have h_m := t1
  have h_read := t2
  have h_readPath := t3
  have h_readHome := t4
  have h_readKin := t5
  have hE := hE.trans (hs.mono (fun _ z => z.elim (fun z => (Or.inl z)) (fun z => z.elim (fun z => (Or.inr (Or.inl z))) (fun z => z.elim (fun z => (Or.inr (Or.inr (Or.inl z)))) (fun z => z.elim (fun z => (Or.inr (Or.inr (Or.inr (Or.inl z))))) (fun z => (Or.inr (Or.inr (Or.inr (Or.inr (Or.inl z)))))))))))
  show V g X 2 w2 0 0 9 [(0, .ref (B 0))] [.int ((f_X9_readAll x_size read readPath readHome readKin text).1)]
  refine vv_bipush (v := (-9)) hC dX9_village_9 (by decide) ?_
  refine vv_icmp_eq hC 17 dX9_village_11 (by decide) (fun c3 => ?_) (fun c3 => ?_)
  · have c3 : (f_X9_readAll x_size read readPath readHome readKin text).1 = (-9) := c3
    refine vv_aload_n hC 0 dX9_village_17 rfl rfl ?_
    refine vv_aload_n hC 0 dX9_village_18 rfl rfl ?_
    refine vv_get (v := .int (nI ((f_X9_readAll x_size read readPath readHome readKin text).2.2.1))) hC fl_X9_109 dX9_village_19 h_m rfl ?_
    refine vv_put hC fp_X9_73 dX9_village_22 h_m rfl rfl (Nat.le_of_ble_eq_true rfl) (fun w4 t1 hs => ?_)
    have t1 : w4 (B 0) = some (.inr (9, cM B (0, (f_X9_readAll x_size read readPath readHome readKin text).2.2.1, x_people, x_paths, x_acts, x_size, (f_X9_readAll x_size read readPath readHome readKin text).2.1, (f_X9_readAll x_size read readPath readHome readKin text).2.2.1, (f_X9_readAll x_size read readPath readHome readKin text).2.2.2.1, (f_X9_readAll x_size read readPath readHome readKin text).2.2.2.2.1, x_sights, x_drawn))) := t1.trans (congrArg (fun z => some (Sum.inr (9, z))) (eM_houses _ _ _ _ _ _ _ _ _ _ _ _ _ _))
    have h_read := hs _ _ (fw_ao h_read h_m) h_read
    have h_readPath := hs _ _ (fw_ao h_readPath h_m) h_readPath
    have h_readHome := hs _ _ (fw_ao h_readHome h_m) h_readHome
    have h_readKin := hs _ _ (fw_ao h_readKin h_m) h_readKin
    have h_text := hs _ _ (fw_ao h_text h_m) h_text
    have h_now := hs _ _ (fw_ao h_now h_m) h_now
    have h_path := hs _ _ (fw_ao h_path h_m) h_path
    have h_home := hs _ _ (fw_ao h_home h_m) h_home
    have h_kin := hs _ _ (fw_ao h_kin h_m) h_kin
    have h_isKept := hs _ _ (fw_ao h_isKept h_m) h_isKept
    have h_m := t1
    have hE := hE.trans (hs.mono (fun _ z => (Or.inl z)))
    refine vv_aload_n hC 0 dX9_village_25 rfl rfl ?_
    refine vv_aload_n hC 0 dX9_village_26 rfl rfl ?_
    refine vv_get (v := .int (nI ((f_X9_readAll x_size read readPath readHome readKin text).2.2.2.1))) hC fl_X9_115 dX9_village_27 h_m rfl ?_
    refine vv_put hC fp_X9_80 dX9_village_30 h_m rfl rfl (Nat.le_of_ble_eq_true rfl) (fun w5 t1 hs => ?_)
    have t1 : w5 (B 0) = some (.inr (9, cM B (0, (f_X9_readAll x_size read readPath readHome readKin text).2.2.1, (f_X9_readAll x_size read readPath readHome readKin text).2.2.2.1, x_paths, x_acts, x_size, (f_X9_readAll x_size read readPath readHome readKin text).2.1, (f_X9_readAll x_size read readPath readHome readKin text).2.2.1, (f_X9_readAll x_size read readPath readHome readKin text).2.2.2.1, (f_X9_readAll x_size read readPath readHome readKin text).2.2.2.2.1, x_sights, x_drawn))) := t1.trans (congrArg (fun z => some (Sum.inr (9, z))) (eM_people _ _ _ _ _ _ _ _ _ _ _ _ _ _))
    have h_read := hs _ _ (fw_ao h_read h_m) h_read
    have h_readPath := hs _ _ (fw_ao h_readPath h_m) h_readPath
    have h_readHome := hs _ _ (fw_ao h_readHome h_m) h_readHome
    have h_readKin := hs _ _ (fw_ao h_readKin h_m) h_readKin
    have h_text := hs _ _ (fw_ao h_text h_m) h_text
    have h_now := hs _ _ (fw_ao h_now h_m) h_now
    have h_path := hs _ _ (fw_ao h_path h_m) h_path
    have h_home := hs _ _ (fw_ao h_home h_m) h_home
    have h_kin := hs _ _ (fw_ao h_kin h_m) h_kin
    have h_isKept := hs _ _ (fw_ao h_isKept h_m) h_isKept
    have h_m := t1
    have hE := hE.trans (hs.mono (fun _ z => (Or.inl z)))
    refine vv_aload_n hC 0 dX9_village_33 rfl rfl ?_
    refine vv_aload_n hC 0 dX9_village_34 rfl rfl ?_
    refine vv_get (v := .int (nI ((f_X9_readAll x_size read readPath readHome readKin text).2.2.2.2.1))) hC fl_X9_124 dX9_village_35 h_m rfl ?_
    refine vv_put hC fp_X9_156 dX9_village_38 h_m rfl rfl (Nat.le_of_ble_eq_true rfl) (fun w6 t1 hs => ?_)
    have t1 : w6 (B 0) = some (.inr (9, cM B (0, (f_X9_readAll x_size read readPath readHome readKin text).2.2.1, (f_X9_readAll x_size read readPath readHome readKin text).2.2.2.1, (f_X9_readAll x_size read readPath readHome readKin text).2.2.2.2.1, x_acts, x_size, (f_X9_readAll x_size read readPath readHome readKin text).2.1, (f_X9_readAll x_size read readPath readHome readKin text).2.2.1, (f_X9_readAll x_size read readPath readHome readKin text).2.2.2.1, (f_X9_readAll x_size read readPath readHome readKin text).2.2.2.2.1, x_sights, x_drawn))) := t1.trans (congrArg (fun z => some (Sum.inr (9, z))) (eM_paths _ _ _ _ _ _ _ _ _ _ _ _ _ _))
    have h_read := hs _ _ (fw_ao h_read h_m) h_read
    have h_readPath := hs _ _ (fw_ao h_readPath h_m) h_readPath
    have h_readHome := hs _ _ (fw_ao h_readHome h_m) h_readHome
    have h_readKin := hs _ _ (fw_ao h_readKin h_m) h_readKin
    have h_text := hs _ _ (fw_ao h_text h_m) h_text
    have h_now := hs _ _ (fw_ao h_now h_m) h_now
    have h_path := hs _ _ (fw_ao h_path h_m) h_path
    have h_home := hs _ _ (fw_ao h_home h_m) h_home
    have h_kin := hs _ _ (fw_ao h_kin h_m) h_kin
    have h_isKept := hs _ _ (fw_ao h_isKept h_m) h_isKept
    have h_m := t1
    have hE := hE.trans (hs.mono (fun _ z => (Or.inl z)))
    refine vv_iconst (v := 0) hC dX9_village_41 (by decide) ?_
    refine vv_istore_n (lv2 := [(1, .int 0), (0, .ref (B 0))]) hC dX9_village_42 rfl (by decide) rfl ?_
    have hL13 : ∀ (r43 k43 : Nat) (y_now_43 : Nat → Int32) (y_path_43 : Nat → Int32) (y_home_43 : Nat → Int32) (y_kin_43 : Nat → Int32) (w7 : Wd) (out : (Nat → Int32) × (Nat → Int32) × (Nat → Int32) × (Nat → Int32)), k43 + r43 = 43 → out = f_X9_village_L43 x_size read readPath readHome readKin text r43 k43 y_now_43 y_path_43 y_home_43 y_kin_43 → w7 (B 0) = some (.inr (9, cM B (0, (f_X9_readAll x_size read readPath readHome readKin text).2.2.1, (f_X9_readAll x_size read readPath readHome readKin text).2.2.2.1, (f_X9_readAll x_size read readPath readHome readKin text).2.2.2.2.1, x_acts, x_size, (f_X9_readAll x_size read readPath readHome readKin text).2.1, (f_X9_readAll x_size read readPath readHome readKin text).2.2.1, (f_X9_readAll x_size read readPath readHome readKin text).2.2.2.1, (f_X9_readAll x_size read readPath readHome readKin text).2.2.2.2.1, x_sights, x_drawn))) → w7 (B 21) = some (.inl (g.2.2.1 0, 43, .inl ((f_X9_readAll x_size read readPath readHome readKin text).2.2.2.2.2.1))) → w7 (B 18) = some (.inl (g.2.2.1 0, 16, .inl ((f_X9_readAll x_size read readPath readHome readKin text).2.2.2.2.2.2.1))) → w7 (B 19) = some (.inl (g.2.2.1 0, 6, .inl ((f_X9_readAll x_size read readPath readHome readKin text).2.2.2.2.2.2.2.1))) → w7 (B 20) = some (.inl (g.2.2.1 0, 6, .inl ((f_X9_readAll x_size read readPath readHome readKin text).2.2.2.2.2.2.2.2))) → w7 (B 12) = some (.inl (g.2.2.1 0, 96, .inl text)) → w7 (B 7) = some (.inl (g.2.2.1 0, 43, .inl y_now_43)) → w7 (B 4) = some (.inl (g.2.2.1 0, 16, .inl y_path_43)) → w7 (B 5) = some (.inl (g.2.2.1 0, 6, .inl y_home_43)) → w7 (B 6) = some (.inl (g.2.2.1 0, 6, .inl y_kin_43)) → w7 (B 11) = some (.inl (g.2.2.1 3, 2, .inl isKept)) → wE (fun q => q = (B 0) ∨ q = (B 21) ∨ q = (B 18) ∨ q = (B 19) ∨ q = (B 20) ∨ q = (B 7) ∨ q = (B 4) ∨ q = (B 5) ∨ q = (B 6) ∨ q = (B 11)) w0 w7 → (∀ w12 : Wd, w12 (B 0) = some (.inr (9, cM B (0, (f_X9_readAll x_size read readPath readHome readKin text).2.2.1, (f_X9_readAll x_size read readPath readHome readKin text).2.2.2.1, (f_X9_readAll x_size read readPath readHome readKin text).2.2.2.2.1, x_acts, x_size, (f_X9_readAll x_size read readPath readHome readKin text).2.1, (f_X9_readAll x_size read readPath readHome readKin text).2.2.1, (f_X9_readAll x_size read readPath readHome readKin text).2.2.2.1, (f_X9_readAll x_size read readPath readHome readKin text).2.2.2.2.1, x_sights, x_drawn))) → w12 (B 21) = some (.inl (g.2.2.1 0, 43, .inl ((f_X9_readAll x_size read readPath readHome readKin text).2.2.2.2.2.1))) → w12 (B 18) = some (.inl (g.2.2.1 0, 16, .inl ((f_X9_readAll x_size read readPath readHome readKin text).2.2.2.2.2.2.1))) → w12 (B 19) = some (.inl (g.2.2.1 0, 6, .inl ((f_X9_readAll x_size read readPath readHome readKin text).2.2.2.2.2.2.2.1))) → w12 (B 20) = some (.inl (g.2.2.1 0, 6, .inl ((f_X9_readAll x_size read readPath readHome readKin text).2.2.2.2.2.2.2.2))) → w12 (B 12) = some (.inl (g.2.2.1 0, 96, .inl text)) → w12 (B 7) = some (.inl (g.2.2.1 0, 43, .inl out.1)) → w12 (B 4) = some (.inl (g.2.2.1 0, 16, .inl out.2.1)) → w12 (B 5) = some (.inl (g.2.2.1 0, 6, .inl out.2.2.1)) → w12 (B 6) = some (.inl (g.2.2.1 0, 6, .inl out.2.2.2)) → w12 (B 11) = some (.inl (g.2.2.1 3, 2, .inl isKept)) → wE (fun q => q = (B 0) ∨ q = (B 21) ∨ q = (B 18) ∨ q = (B 19) ∨ q = (B 20) ∨ q = (B 7) ∨ q = (B 4) ∨ q = (B 5) ∨ q = (B 6) ∨ q = (B 11)) w0 w12 → V g X 2 w12 0 0 121 [(0, .ref (B 0))] []) → V g X 2 w7 0 0 43 [(0, .ref (B 0)), (1, .int (nI k43))] [] := by
      intro r43
      induction r43 with
      | zero =>
        intro k43 y_now_43 y_path_43 y_home_43 y_kin_43 w7 out hb ho h_m h_read h_readPath h_readHome h_readKin h_text h_now h_path h_home h_kin h_isKept hE hk
        refine vv_iload_n hC 1 dX9_village_43 rfl rfl ?_
        refine vv_bipush (v := (43)) hC dX9_village_44 (by decide) ?_
        refine vv_icmp_ge hC 121 dX9_village_46 (by decide) (fun c => ?_) (fun c => False.elim (c ((nI_le_ (a := 43) (b := k43) (by omega) (by omega)).mpr (by omega))))
        refine vv_lv [0] rfl ?_
        have ho := ho.trans (by first | (simp only [f_X9_village_L43]; done) | rfl | (simp only [f_X9_village_L43]; rfl) : _ = (y_now_43, y_path_43, y_home_43, y_kin_43))
        subst ho
        exact hk w7 h_m h_read h_readPath h_readHome h_readKin h_text h_now h_path h_home h_kin h_isKept hE
      | succ r43 ih =>
        intro k43 y_now_43 y_path_43 y_home_43 y_kin_43 w7 out hb ho h_m h_read h_readPath h_readHome h_readKin h_text h_now h_path h_home h_kin h_isKept hE hk
        refine vv_iload_n hC 1 dX9_village_43 rfl rfl ?_
        refine vv_bipush (v := (43)) hC dX9_village_44 (by decide) ?_
        refine vv_icmp_ge hC 121 dX9_village_46 (by decide) (fun c => absurd ((nI_le_ (a := 43) (b := k43) (by omega) (by omega)).mp c) (by first | omega | decide)) (fun c => ?_)
        refine vv_aload_n hC 0 dX9_village_49 rfl rfl ?_
        refine vv_get (v := .ref (B 7)) hC fl_X9_19 dX9_village_50 h_m rfl ?_
        refine vv_iload_n hC 1 dX9_village_53 rfl rfl ?_
        refine vv_aload_n hC 0 dX9_village_54 rfl rfl ?_
        refine vv_get (v := .ref (B 21)) hC fl_X9_44 dX9_village_55 h_m rfl ?_
        refine vv_iload_n hC 1 dX9_village_58 rfl rfl ?_
        refine vv_ialdn (t := k43) hC dX9_village_59 h_read (by omega) (by decide) ?_
        refine vv_iastn (t := k43) hC dX9_village_60 h_now (by omega) (by decide) (fun w8 t1 hs => ?_)
        have t1 : w8 (B 7) = some (.inl (g.2.2.1 0, 43, .inl (upd y_now_43 k43 (((f_X9_readAll x_size read readPath readHome readKin text).2.2.2.2.2.1) k43)))) := t1
        have h_m := hs _ _ (fw_oa h_m h_now) h_m
        have h_read := hs _ _ (fw_inj hB (by decide) (by decide) (by decide)) h_read
        have h_readPath := hs _ _ (fw_inj hB (by decide) (by decide) (by decide)) h_readPath
        have h_readHome := hs _ _ (fw_inj hB (by decide) (by decide) (by decide)) h_readHome
        have h_readKin := hs _ _ (fw_inj hB (by decide) (by decide) (by decide)) h_readKin
        have h_text := hs _ _ (fw_inj hB (by decide) (by decide) (by decide)) h_text
        have h_path := hs _ _ (fw_inj hB (by decide) (by decide) (by decide)) h_path
        have h_home := hs _ _ (fw_inj hB (by decide) (by decide) (by decide)) h_home
        have h_kin := hs _ _ (fw_inj hB (by decide) (by decide) (by decide)) h_kin
        have h_isKept := hs _ _ (fw_inj hB (by decide) (by decide) (by decide)) h_isKept
        have h_now := t1
        have hE := hE.trans (hs.mono (fun _ z => (Or.inr (Or.inr (Or.inr (Or.inr (Or.inr (Or.inl z))))))))
        refine vv_aload_n hC 0 dX9_village_61 rfl rfl ?_
        refine vv_get (v := .ref (B 4)) hC fl_X9_7 dX9_village_62 h_m rfl ?_
        refine vv_iload_n hC 1 dX9_village_65 rfl rfl ?_
        refine vv_bipush (v := (16)) hC dX9_village_66 (by decide) ?_
        refine vv_irem hC dX9_village_68 (by decide) ?_
        refine vv_topi (nI (k43 % 16)) (nI_rem (a := k43) (d := 16) (by omega) (by omega) (by omega)) ?_
        refine vv_aload_n hC 0 dX9_village_69 rfl rfl ?_
        refine vv_get (v := .ref (B 18)) hC fl_X9_35 dX9_village_70 h_m rfl ?_
        refine vv_iload_n hC 1 dX9_village_73 rfl rfl ?_
        refine vv_bipush (v := (16)) hC dX9_village_74 (by decide) ?_
        refine vv_irem hC dX9_village_76 (by decide) ?_
        refine vv_topi (nI (k43 % 16)) (nI_rem (a := k43) (d := 16) (by omega) (by omega) (by omega)) ?_
        refine vv_ialdn (t := k43 % 16) hC dX9_village_77 h_readPath (by omega) (by decide) ?_
        refine vv_iastn (t := k43 % 16) hC dX9_village_78 h_path (by omega) (by decide) (fun w9 t1 hs => ?_)
        have t1 : w9 (B 4) = some (.inl (g.2.2.1 0, 16, .inl (upd y_path_43 (k43 % 16) (((f_X9_readAll x_size read readPath readHome readKin text).2.2.2.2.2.2.1) (k43 % 16))))) := t1
        have h_m := hs _ _ (fw_oa h_m h_path) h_m
        have h_read := hs _ _ (fw_inj hB (by decide) (by decide) (by decide)) h_read
        have h_readPath := hs _ _ (fw_inj hB (by decide) (by decide) (by decide)) h_readPath
        have h_readHome := hs _ _ (fw_inj hB (by decide) (by decide) (by decide)) h_readHome
        have h_readKin := hs _ _ (fw_inj hB (by decide) (by decide) (by decide)) h_readKin
        have h_text := hs _ _ (fw_inj hB (by decide) (by decide) (by decide)) h_text
        have h_now := hs _ _ (fw_inj hB (by decide) (by decide) (by decide)) h_now
        have h_home := hs _ _ (fw_inj hB (by decide) (by decide) (by decide)) h_home
        have h_kin := hs _ _ (fw_inj hB (by decide) (by decide) (by decide)) h_kin
        have h_isKept := hs _ _ (fw_inj hB (by decide) (by decide) (by decide)) h_isKept
        have h_path := t1
        have hE := hE.trans (hs.mono (fun _ z => (Or.inr (Or.inr (Or.inr (Or.inr (Or.inr (Or.inr (Or.inl z)))))))))
        refine vv_aload_n hC 0 dX9_village_79 rfl rfl ?_
        refine vv_get (v := .ref (B 5)) hC fl_X9_13 dX9_village_80 h_m rfl ?_
        refine vv_iload_n hC 1 dX9_village_83 rfl rfl ?_
        refine vv_bipush (v := (6)) hC dX9_village_84 (by decide) ?_
        refine vv_irem hC dX9_village_86 (by decide) ?_
        refine vv_topi (nI (k43 % 6)) (nI_rem (a := k43) (d := 6) (by omega) (by omega) (by omega)) ?_
        refine vv_aload_n hC 0 dX9_village_87 rfl rfl ?_
        refine vv_get (v := .ref (B 19)) hC fl_X9_38 dX9_village_88 h_m rfl ?_
        refine vv_iload_n hC 1 dX9_village_91 rfl rfl ?_
        refine vv_bipush (v := (6)) hC dX9_village_92 (by decide) ?_
        refine vv_irem hC dX9_village_94 (by decide) ?_
        refine vv_topi (nI (k43 % 6)) (nI_rem (a := k43) (d := 6) (by omega) (by omega) (by omega)) ?_
        refine vv_ialdn (t := k43 % 6) hC dX9_village_95 h_readHome (by omega) (by decide) ?_
        refine vv_iastn (t := k43 % 6) hC dX9_village_96 h_home (by omega) (by decide) (fun w10 t1 hs => ?_)
        have t1 : w10 (B 5) = some (.inl (g.2.2.1 0, 6, .inl (upd y_home_43 (k43 % 6) (((f_X9_readAll x_size read readPath readHome readKin text).2.2.2.2.2.2.2.1) (k43 % 6))))) := t1
        have h_m := hs _ _ (fw_oa h_m h_home) h_m
        have h_read := hs _ _ (fw_inj hB (by decide) (by decide) (by decide)) h_read
        have h_readPath := hs _ _ (fw_inj hB (by decide) (by decide) (by decide)) h_readPath
        have h_readHome := hs _ _ (fw_inj hB (by decide) (by decide) (by decide)) h_readHome
        have h_readKin := hs _ _ (fw_inj hB (by decide) (by decide) (by decide)) h_readKin
        have h_text := hs _ _ (fw_inj hB (by decide) (by decide) (by decide)) h_text
        have h_now := hs _ _ (fw_inj hB (by decide) (by decide) (by decide)) h_now
        have h_path := hs _ _ (fw_inj hB (by decide) (by decide) (by decide)) h_path
        have h_kin := hs _ _ (fw_inj hB (by decide) (by decide) (by decide)) h_kin
        have h_isKept := hs _ _ (fw_inj hB (by decide) (by decide) (by decide)) h_isKept
        have h_home := t1
        have hE := hE.trans (hs.mono (fun _ z => (Or.inr (Or.inr (Or.inr (Or.inr (Or.inr (Or.inr (Or.inr (Or.inl z))))))))))
        refine vv_aload_n hC 0 dX9_village_97 rfl rfl ?_
        refine vv_get (v := .ref (B 6)) hC fl_X9_16 dX9_village_98 h_m rfl ?_
        refine vv_iload_n hC 1 dX9_village_101 rfl rfl ?_
        refine vv_bipush (v := (6)) hC dX9_village_102 (by decide) ?_
        refine vv_irem hC dX9_village_104 (by decide) ?_
        refine vv_topi (nI (k43 % 6)) (nI_rem (a := k43) (d := 6) (by omega) (by omega) (by omega)) ?_
        refine vv_aload_n hC 0 dX9_village_105 rfl rfl ?_
        refine vv_get (v := .ref (B 20)) hC fl_X9_41 dX9_village_106 h_m rfl ?_
        refine vv_iload_n hC 1 dX9_village_109 rfl rfl ?_
        refine vv_bipush (v := (6)) hC dX9_village_110 (by decide) ?_
        refine vv_irem hC dX9_village_112 (by decide) ?_
        refine vv_topi (nI (k43 % 6)) (nI_rem (a := k43) (d := 6) (by omega) (by omega) (by omega)) ?_
        refine vv_ialdn (t := k43 % 6) hC dX9_village_113 h_readKin (by omega) (by decide) ?_
        refine vv_iastn (t := k43 % 6) hC dX9_village_114 h_kin (by omega) (by decide) (fun w11 t1 hs => ?_)
        have t1 : w11 (B 6) = some (.inl (g.2.2.1 0, 6, .inl (upd y_kin_43 (k43 % 6) (((f_X9_readAll x_size read readPath readHome readKin text).2.2.2.2.2.2.2.2) (k43 % 6))))) := t1
        have h_m := hs _ _ (fw_oa h_m h_kin) h_m
        have h_read := hs _ _ (fw_inj hB (by decide) (by decide) (by decide)) h_read
        have h_readPath := hs _ _ (fw_inj hB (by decide) (by decide) (by decide)) h_readPath
        have h_readHome := hs _ _ (fw_inj hB (by decide) (by decide) (by decide)) h_readHome
        have h_readKin := hs _ _ (fw_inj hB (by decide) (by decide) (by decide)) h_readKin
        have h_text := hs _ _ (fw_inj hB (by decide) (by decide) (by decide)) h_text
        have h_now := hs _ _ (fw_inj hB (by decide) (by decide) (by decide)) h_now
        have h_path := hs _ _ (fw_inj hB (by decide) (by decide) (by decide)) h_path
        have h_home := hs _ _ (fw_inj hB (by decide) (by decide) (by decide)) h_home
        have h_isKept := hs _ _ (fw_inj hB (by decide) (by decide) (by decide)) h_isKept
        have h_kin := t1
        have hE := hE.trans (hs.mono (fun _ z => (Or.inr (Or.inr (Or.inr (Or.inr (Or.inr (Or.inr (Or.inr (Or.inr (Or.inl z)))))))))))
        refine vv_iinc (lv2 := [(1, .int (nI (k43 + 1))), (0, .ref (B 0))]) hC 1 dX9_village_115 rfl (nI_add k43 1) (by decide) rfl ?_
        refine vv_goto hC 43 dX9_village_118 (by decide) ?_
        refine vv_lv [1, 0] rfl ?_
        exact ih (k43 + 1) (upd y_now_43 k43 (((f_X9_readAll x_size read readPath readHome readKin text).2.2.2.2.2.1) k43)) (upd y_path_43 (k43 % 16) (((f_X9_readAll x_size read readPath readHome readKin text).2.2.2.2.2.2.1) (k43 % 16))) (upd y_home_43 (k43 % 6) (((f_X9_readAll x_size read readPath readHome readKin text).2.2.2.2.2.2.2.1) (k43 % 6))) (upd y_kin_43 (k43 % 6) (((f_X9_readAll x_size read readPath readHome readKin text).2.2.2.2.2.2.2.2) (k43 % 6))) w11 out (by omega) (ho.trans (by first | (simp only [f_X9_village_L43]; done) | rfl | (simp only [f_X9_village_L43]; rfl))) h_m h_read h_readPath h_readHome h_readKin h_text h_now h_path h_home h_kin h_isKept hE hk
    refine vv_lv [1, 0] rfl ?_
    refine hL13 43 0 now path home kin w6 (f_X9_village_L43 x_size read readPath readHome readKin text 43 0 now path home kin) (by omega) rfl h_m h_read h_readPath h_readHome h_readKin h_text h_now h_path h_home h_kin h_isKept hE ?_
    intro w12 h_m h_read h_readPath h_readHome h_readKin h_text h_now h_path h_home h_kin h_isKept hE
    refine vv_aload_n hC 0 dX9_village_121 rfl rfl ?_
    refine vv_iconst (v := 0) hC dX9_village_122 (by decide) ?_
    refine vv_put hC fp_X9_159 dX9_village_123 h_m rfl rfl (Nat.le_of_ble_eq_true rfl) (fun w14 t1 hs => ?_)
    have t1 : w14 (B 0) = some (.inr (9, cM B (0, (f_X9_readAll x_size read readPath readHome readKin text).2.2.1, (f_X9_readAll x_size read readPath readHome readKin text).2.2.2.1, (f_X9_readAll x_size read readPath readHome readKin text).2.2.2.2.1, 0, x_size, (f_X9_readAll x_size read readPath readHome readKin text).2.1, (f_X9_readAll x_size read readPath readHome readKin text).2.2.1, (f_X9_readAll x_size read readPath readHome readKin text).2.2.2.1, (f_X9_readAll x_size read readPath readHome readKin text).2.2.2.2.1, x_sights, x_drawn))) := t1.trans (congrArg (fun z => some (Sum.inr (9, z))) (eM_acts _ _ _ _ _ _ _ _ _ _ _ _ _ _))
    have h_read := hs _ _ (fw_ao h_read h_m) h_read
    have h_readPath := hs _ _ (fw_ao h_readPath h_m) h_readPath
    have h_readHome := hs _ _ (fw_ao h_readHome h_m) h_readHome
    have h_readKin := hs _ _ (fw_ao h_readKin h_m) h_readKin
    have h_text := hs _ _ (fw_ao h_text h_m) h_text
    have h_now := hs _ _ (fw_ao h_now h_m) h_now
    have h_path := hs _ _ (fw_ao h_path h_m) h_path
    have h_home := hs _ _ (fw_ao h_home h_m) h_home
    have h_kin := hs _ _ (fw_ao h_kin h_m) h_kin
    have h_isKept := hs _ _ (fw_ao h_isKept h_m) h_isKept
    have h_m := t1
    have hE := hE.trans (hs.mono (fun _ z => (Or.inl z)))
    refine vv_aload_n hC 0 dX9_village_126 rfl rfl ?_
    refine vv_get (v := .ref (B 11)) hC fl_X9_28 dX9_village_127 h_m rfl ?_
    refine vv_iconst (v := 0) hC dX9_village_130 (by decide) ?_
    refine vv_iconst (v := 0) hC dX9_village_131 (by decide) ?_
    refine vv_zastn (t := 0) hC dX9_village_132 h_isKept (by omega) (by decide) (fun w15 t1 hs => ?_)
    have t1 : w15 (B 11) = some (.inl (g.2.2.1 3, 2, .inl (upd isKept 0 (vp_nar .boolean 0)))) := t1
    have h_m := hs _ _ (fw_oa h_m h_isKept) h_m
    have h_read := hs _ _ (fw_inj hB (by decide) (by decide) (by decide)) h_read
    have h_readPath := hs _ _ (fw_inj hB (by decide) (by decide) (by decide)) h_readPath
    have h_readHome := hs _ _ (fw_inj hB (by decide) (by decide) (by decide)) h_readHome
    have h_readKin := hs _ _ (fw_inj hB (by decide) (by decide) (by decide)) h_readKin
    have h_text := hs _ _ (fw_inj hB (by decide) (by decide) (by decide)) h_text
    have h_now := hs _ _ (fw_inj hB (by decide) (by decide) (by decide)) h_now
    have h_path := hs _ _ (fw_inj hB (by decide) (by decide) (by decide)) h_path
    have h_home := hs _ _ (fw_inj hB (by decide) (by decide) (by decide)) h_home
    have h_kin := hs _ _ (fw_inj hB (by decide) (by decide) (by decide)) h_kin
    have h_isKept := t1
    have hE := hE.trans (hs.mono (fun _ z => (Or.inr (Or.inr (Or.inr (Or.inr (Or.inr (Or.inr (Or.inr (Or.inr (Or.inr z)))))))))))
    refine vv_aload_n hC 0 dX9_village_133 rfl rfl ?_
    refine vv_get (v := .ref (B 11)) hC fl_X9_28 dX9_village_134 h_m rfl ?_
    refine vv_iconst (v := 1) hC dX9_village_137 (by decide) ?_
    refine vv_iconst (v := 0) hC dX9_village_138 (by decide) ?_
    refine vv_zastn (t := 1) hC dX9_village_139 h_isKept (by omega) (by decide) (fun w16 t1 hs => ?_)
    have t1 : w16 (B 11) = some (.inl (g.2.2.1 3, 2, .inl (upd (upd isKept 0 (vp_nar .boolean 0)) 1 (vp_nar .boolean 0)))) := t1
    have h_m := hs _ _ (fw_oa h_m h_isKept) h_m
    have h_read := hs _ _ (fw_inj hB (by decide) (by decide) (by decide)) h_read
    have h_readPath := hs _ _ (fw_inj hB (by decide) (by decide) (by decide)) h_readPath
    have h_readHome := hs _ _ (fw_inj hB (by decide) (by decide) (by decide)) h_readHome
    have h_readKin := hs _ _ (fw_inj hB (by decide) (by decide) (by decide)) h_readKin
    have h_text := hs _ _ (fw_inj hB (by decide) (by decide) (by decide)) h_text
    have h_now := hs _ _ (fw_inj hB (by decide) (by decide) (by decide)) h_now
    have h_path := hs _ _ (fw_inj hB (by decide) (by decide) (by decide)) h_path
    have h_home := hs _ _ (fw_inj hB (by decide) (by decide) (by decide)) h_home
    have h_kin := hs _ _ (fw_inj hB (by decide) (by decide) (by decide)) h_kin
    have h_isKept := t1
    have hE := hE.trans (hs.mono (fun _ z => (Or.inr (Or.inr (Or.inr (Or.inr (Or.inr (Or.inr (Or.inr (Or.inr (Or.inr z)))))))))))
    refine vv_bipush (v := (10)) hC dX9_village_140 (by decide) ?_
    refine vv_aload_n hC 0 dX9_village_142 rfl rfl ?_
    refine vv_get (v := .int (nI ((f_X9_readAll x_size read readPath readHome readKin text).2.2.1))) hC fl_X9_73 dX9_village_143 h_m rfl ?_
    refine vv_imul hC dX9_village_146 ?_
    refine vv_topi (nI (10 * ((f_X9_readAll x_size read readPath readHome readKin text).2.2.1))) (pk_mul 10 ((f_X9_readAll x_size read readPath readHome readKin text).2.2.1)) ?_
    refine vv_aload_n hC 0 dX9_village_147 rfl rfl ?_
    refine vv_get (v := .int (nI ((f_X9_readAll x_size read readPath readHome readKin text).2.2.2.1))) hC fl_X9_80 dX9_village_148 h_m rfl ?_
    refine vv_iadd hC dX9_village_151 ?_
    refine vv_topi (nI (10 * ((f_X9_readAll x_size read readPath readHome readKin text).2.2.1) + (f_X9_readAll x_size read readPath readHome readKin text).2.2.2.1)) (nI_add (10 * ((f_X9_readAll x_size read readPath readHome readKin text).2.2.1)) ((f_X9_readAll x_size read readPath readHome readKin text).2.2.2.1)) ?_
    have hf : (f_X9_village x_houses x_people x_paths x_acts x_size read readPath readHome readKin text now path home kin isKept) = (nI (10 * ((f_X9_readAll x_size read readPath readHome readKin text).2.2.1) + (f_X9_readAll x_size read readPath readHome readKin text).2.2.2.1), 0, (f_X9_readAll x_size read readPath readHome readKin text).2.2.1, (f_X9_readAll x_size read readPath readHome readKin text).2.2.2.1, (f_X9_readAll x_size read readPath readHome readKin text).2.2.2.2.1, 0, (f_X9_readAll x_size read readPath readHome readKin text).2.1, (f_X9_readAll x_size read readPath readHome readKin text).2.2.1, (f_X9_readAll x_size read readPath readHome readKin text).2.2.2.1, (f_X9_readAll x_size read readPath readHome readKin text).2.2.2.2.1, (f_X9_readAll x_size read readPath readHome readKin text).2.2.2.2.2.1, (f_X9_readAll x_size read readPath readHome readKin text).2.2.2.2.2.2.1, (f_X9_readAll x_size read readPath readHome readKin text).2.2.2.2.2.2.2.1, (f_X9_readAll x_size read readPath readHome readKin text).2.2.2.2.2.2.2.2, (f_X9_village_L43 x_size read readPath readHome readKin text 43 0 now path home kin).1, (f_X9_village_L43 x_size read readPath readHome readKin text 43 0 now path home kin).2.1, (f_X9_village_L43 x_size read readPath readHome readKin text 43 0 now path home kin).2.2.1, (f_X9_village_L43 x_size read readPath readHome readKin text 43 0 now path home kin).2.2.2, upd (upd isKept 0 (vp_nar .boolean 0)) 1 (vp_nar .boolean 0)) := by first | (simp only [f_X9_village, if_pos c3]; done) | rfl | (simp only [f_X9_village, if_pos c3]; rfl)
    refine vv_iret hC hR rfl dX9_village_152 (by omega) (by omega) ?_
    rw [hf]
    try dsimp only
    exact ⟨rfl, h_m, h_read, h_readPath, h_readHome, h_readKin, h_now, h_path, h_home, h_kin, h_isKept, hE⟩
  · have c3 : ¬ ((f_X9_readAll x_size read readPath readHome readKin text).1 = (-9)) := c3
    refine vv_bipush (v := (-3)) hC dX9_village_14 (by decide) ?_
    have hf : (f_X9_village x_houses x_people x_paths x_acts x_size read readPath readHome readKin text now path home kin isKept) = ((-3), 0, x_houses, x_people, x_paths, x_acts, (f_X9_readAll x_size read readPath readHome readKin text).2.1, (f_X9_readAll x_size read readPath readHome readKin text).2.2.1, (f_X9_readAll x_size read readPath readHome readKin text).2.2.2.1, (f_X9_readAll x_size read readPath readHome readKin text).2.2.2.2.1, (f_X9_readAll x_size read readPath readHome readKin text).2.2.2.2.2.1, (f_X9_readAll x_size read readPath readHome readKin text).2.2.2.2.2.2.1, (f_X9_readAll x_size read readPath readHome readKin text).2.2.2.2.2.2.2.1, (f_X9_readAll x_size read readPath readHome readKin text).2.2.2.2.2.2.2.2, now, path, home, kin, isKept) := by first | (simp only [f_X9_village, if_neg c3]; done) | rfl | (simp only [f_X9_village, if_neg c3]; rfl)
    refine vv_iret hC hR rfl dX9_village_16 (by omega) (by omega) ?_
    rw [hf]
    try dsimp only
    exact ⟨rfl, h_m, h_read, h_readPath, h_readHome, h_readKin, h_now, h_path, h_home, h_kin, h_isKept, hE⟩
