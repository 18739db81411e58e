def f_X9_readPart_x1 (x_at : Nat) (x_readHouses : Nat) (x_readPeople : Nat) (text : Nat → Int32) (readKin : Nat → Int32) (readPath : Nat → Int32) : Bool := (if text x_at = 72 then (if x_readHouses < 4 then true else (if text x_at = 82 then (if f_X9_hasAnyWay x_readHouses readPath = true then true else (if text x_at = 80 then (if x_readHouses = 0 then (if text x_at = 75 then (if f_X9_hasAnyOther x_readPeople readKin = true then true else false) else false) else (if x_readPeople < 6 then true else (if text x_at = 75 then (if f_X9_hasAnyOther x_readPeople readKin = true then true else false) else false))) else (if text x_at = 75 then (if f_X9_hasAnyOther x_readPeople readKin = true then true else false) else false))) else (if text x_at = 80 then (if x_readHouses = 0 then (if text x_at = 75 then (if f_X9_hasAnyOther x_readPeople readKin = true then true else false) else false) else (if x_readPeople < 6 then true else (if text x_at = 75 then (if f_X9_hasAnyOther x_readPeople readKin = true then true else false) else false))) else (if text x_at = 75 then (if f_X9_hasAnyOther x_readPeople readKin = true then true else false) else false)))) else (if text x_at = 82 then (if f_X9_hasAnyWay x_readHouses readPath = true then true else (if text x_at = 80 then (if x_readHouses = 0 then (if text x_at = 75 then (if f_X9_hasAnyOther x_readPeople readKin = true then true else false) else false) else (if x_readPeople < 6 then true else (if text x_at = 75 then (if f_X9_hasAnyOther x_readPeople readKin = true then true else false) else false))) else (if text x_at = 75 then (if f_X9_hasAnyOther x_readPeople readKin = true then true else false) else false))) else (if text x_at = 80 then (if x_readHouses = 0 then (if text x_at = 75 then (if f_X9_hasAnyOther x_readPeople readKin = true then true else false) else false) else (if x_readPeople < 6 then true else (if text x_at = 75 then (if f_X9_hasAnyOther x_readPeople readKin = true then true else false) else false))) else (if text x_at = 75 then (if f_X9_hasAnyOther x_readPeople readKin = true then true else false) else false))))
def f_X9_readPart (x_size : Nat) (x_at : Nat) (x_readHouses : Nat) (x_readPeople : Nat) (x_readPaths : Nat) (text : Nat → Int32) (readKin : Nat → Int32) (readPath : Nat → Int32) (read : Nat → Int32) (readHome : Nat → Int32) : Bool × Nat × Nat × Nat × Nat × (Nat → Int32) × (Nat → Int32) × (Nat → Int32) × (Nat → Int32) := (if (f_X9_readPart_x1 x_at x_readHouses x_readPeople text readKin readPath) = true then (if text x_at = 72 then ((f_X9_readHouse x_size (x_at + 1) x_readHouses text read).1, (f_X9_readHouse x_size (x_at + 1) x_readHouses text read).2.1, (f_X9_readHouse x_size (x_at + 1) x_readHouses text read).2.2.1, x_readPeople, x_readPaths, readKin, readPath, (f_X9_readHouse x_size (x_at + 1) x_readHouses text read).2.2.2, readHome) else (if text x_at = 80 then ((f_X9_readPerson x_size (x_at + 1) x_readHouses x_readPeople text readHome read).1, (f_X9_readPerson x_size (x_at + 1) x_readHouses x_readPeople text readHome read).2.1, x_readHouses, (f_X9_readPerson x_size (x_at + 1) x_readHouses x_readPeople text readHome read).2.2.1, x_readPaths, readKin, readPath, (f_X9_readPerson x_size (x_at + 1) x_readHouses x_readPeople text readHome read).2.2.2.2, (f_X9_readPerson x_size (x_at + 1) x_readHouses x_readPeople text readHome read).2.2.2.1) else (if text x_at = 82 then ((f_X9_readWay x_size (x_at + 1) x_readHouses x_readPaths text readPath).1, (f_X9_readWay x_size (x_at + 1) x_readHouses x_readPaths text readPath).2.1, x_readHouses, x_readPeople, (f_X9_readWay x_size (x_at + 1) x_readHouses x_readPaths text readPath).2.2.1, readKin, (f_X9_readWay x_size (x_at + 1) x_readHouses x_readPaths text readPath).2.2.2, read, readHome) else ((f_X9_readTwo x_size (x_at + 1) x_readPeople text readKin).1, (f_X9_readTwo x_size (x_at + 1) x_readPeople text readKin).2.1, x_readHouses, x_readPeople, x_readPaths, (f_X9_readTwo x_size (x_at + 1) x_readPeople text readKin).2.2, readPath, read, readHome)))) else (false, x_at, x_readHouses, x_readPeople, x_readPaths, readKin, readPath, read, readHome))
set_option maxHeartbeats 4000000 in
set_option maxRecDepth 100000 in
theorem c_X9_readPart (g : GT) (w0 : Wd) (B : Nat → Nat) (hB : ∀ i j, i < 60 → j < 60 → B i = B j → i = j) (x_thrown : Int32) (x_houses : Nat) (x_people : Nat) (x_paths : Nat) (x_acts : Nat) (x_size : Nat) (x_at : Nat) (x_readHouses : Nat) (x_readPeople : Nat) (x_readPaths : Nat) (x_sights : Nat) (x_drawn : Int64) (text : Nat → Int32) (readKin : Nat → Int32) (readPath : Nat → Int32) (read : Nat → Int32) (readHome : Nat → Int32) (hat : x_at < x_size) (hsz : x_size ≤ 96) (hrh : x_readHouses ≤ 4) (hrp : x_readPeople ≤ 6) (h_m : w0 (B 0) = some (.inr (9, cM B (x_thrown, x_houses, x_people, x_paths, x_acts, x_size, x_at, x_readHouses, x_readPeople, x_readPaths, x_sights, x_drawn)))) (h_text : w0 (B 12) = some (.inl (g.2.2.1 0, 96, .inl text))) (h_readKin : w0 (B 20) = some (.inl (g.2.2.1 0, 6, .inl readKin))) (h_readPath : w0 (B 18) = some (.inl (g.2.2.1 0, 16, .inl readPath))) (h_read : w0 (B 21) = some (.inl (g.2.2.1 0, 43, .inl read))) (h_readHome : w0 (B 19) = some (.inl (g.2.2.1 0, 6, .inl readHome))) : CT g yX9_readPart cX9_readPart 3 (some .boolean) 4 89 0 0 w0 [.ref (B 0)] (fun r w2 => r = some (.int (bI ((f_X9_readPart x_size x_at x_readHouses x_readPeople x_readPaths text readKin readPath read readHome).1))) ∧ w2 (B 0) = some (.inr (9, cM B (x_thrown, x_houses, x_people, x_paths, x_acts, x_size, (f_X9_readPart x_size x_at x_readHouses x_readPeople x_readPaths text readKin readPath read readHome).2.1, (f_X9_readPart x_size x_at x_readHouses x_readPeople x_readPaths text readKin readPath read readHome).2.2.1, (f_X9_readPart x_size x_at x_readHouses x_readPeople x_readPaths text readKin readPath read readHome).2.2.2.1, (f_X9_readPart x_size x_at x_readHouses x_readPeople x_readPaths text readKin readPath read readHome).2.2.2.2.1, x_sights, x_drawn))) ∧ w2 (B 20) = some (.inl (g.2.2.1 0, 6, .inl ((f_X9_readPart x_size x_at x_readHouses x_readPeople x_readPaths text readKin readPath read readHome).2.2.2.2.2.1))) ∧ w2 (B 18) = some (.inl (g.2.2.1 0, 16, .inl ((f_X9_readPart x_size x_at x_readHouses x_readPeople x_readPaths text readKin readPath read readHome).2.2.2.2.2.2.1))) ∧ w2 (B 21) = some (.inl (g.2.2.1 0, 43, .inl ((f_X9_readPart x_size x_at x_readHouses x_readPeople x_readPaths text readKin readPath read readHome).2.2.2.2.2.2.2.1))) ∧ w2 (B 19) = some (.inl (g.2.2.1 0, 6, .inl ((f_X9_readPart x_size x_at x_readHouses x_readPeople x_readPaths text readKin readPath read readHome).2.2.2.2.2.2.2.2))) ∧ wE (fun q => q = (B 0) ∨ q = (B 20) ∨ q = (B 18) ∨ q = (B 21) ∨ q = (B 19)) w0 w2) := by
  refine CT.of (own := RX9) (by decide +kernel) rfl (Nat.le_of_ble_eq_true rfl) (fun X hC hR hI => ?_)
  show V g X 3 w0 0 0 0 [(0, .ref (B 0))] []
  have hE : wE (fun q => q = (B 0) ∨ q = (B 20) ∨ q = (B 18) ∨ q = (B 21) ∨ q = (B 19)) w0 w0 := wE.refl
  refine vv_aload_n hC 0 dX9_readPart_0 rfl rfl ?_
  refine vv_get (v := .ref (B 12)) hC fl_X9_32 dX9_readPart_1 h_m rfl ?_
  refine vv_aload_n hC 0 dX9_readPart_4 rfl rfl ?_
  refine vv_get (v := .int (nI x_at)) hC fl_X9_98 dX9_readPart_5 h_m rfl ?_
  refine vv_ialdn (t := x_at) hC dX9_readPart_8 h_text (by omega) (by decide) ?_
  refine vv_istore_n (lv2 := [(1, .int (text x_at)), (0, .ref (B 0))]) hC dX9_readPart_9 rfl (by decide) rfl ?_
  refine vv_iload_n hC 0 dX9_readPart_10 rfl rfl ?_
  refine vv_bipush (v := (72)) hC dX9_readPart_11 (by decide) ?_
  have hJ2 : V g X 3 w0 0 0 77 [(0, .ref (B 0)), (1, .int (text x_at))] [.int (bI (f_X9_readPart_x1 x_at x_readHouses x_readPeople text readKin readPath))] := by
    refine vv_istore_n (lv2 := [(2, .int (bI (f_X9_readPart_x1 x_at x_readHouses x_readPeople text readKin readPath))), (0, .ref (B 0)), (1, .int (text x_at))]) hC dX9_readPart_77 rfl (by decide) rfl ?_
    refine vv_iload_n hC 0 dX9_readPart_78 rfl rfl ?_
    refine vv_if_ne hC 84 dX9_readPart_79 (by decide) (fun c44 => ?_) (fun c44 => ?_)
    · have c44 : (f_X9_readPart_x1 x_at x_readHouses x_readPeople text readKin readPath) = true := bI_t c44
      refine vv_aload_n hC 1 dX9_readPart_84 rfl rfl ?_
      refine vv_dup hC dX9_readPart_85 rfl ?_
      refine vv_get (v := .int (nI x_at)) hC fl_X9_98 dX9_readPart_86 h_m rfl ?_
      refine vv_iconst (v := 1) hC dX9_readPart_89 (by decide) ?_
      refine vv_iadd hC dX9_readPart_90 ?_
      refine vv_topi (nI (x_at + 1)) (nI_add x_at 1) ?_
      refine vv_put hC fp_X9_98 dX9_readPart_91 h_m rfl rfl (Nat.le_of_ble_eq_true rfl) (fun w45 t1 hs => ?_)
      have t1 : w45 (B 0) = some (.inr (9, cM B (x_thrown, x_houses, x_people, x_paths, x_acts, x_size, x_at + 1, x_readHouses, x_readPeople, x_readPaths, x_sights, x_drawn))) := t1.trans (congrArg (fun z => some (Sum.inr (9, z))) (eM_at _ _ _ _ _ _ _ _ _ _ _ _ _ _))
      have h_text := hs _ _ (fw_ao h_text h_m) h_text
      have h_readKin := hs _ _ (fw_ao h_readKin h_m) h_readKin
      have h_readPath := hs _ _ (fw_ao h_readPath h_m) h_readPath
      have h_read := hs _ _ (fw_ao h_read h_m) h_read
      have h_readHome := hs _ _ (fw_ao h_readHome h_m) h_readHome
      have h_m := t1
      have hE := hE.trans (hs.mono (fun _ z => (Or.inl z)))
      refine vv_iload_n hC 2 dX9_readPart_94 rfl rfl ?_
      by_cases c46 : text x_at = 72
      · refine vv_lookup hC 128 dX9_readPart_95 (by decide) (by rw [c46] <;> rfl) (by decide) ?_
        refine vv_aload_n hC 1 dX9_readPart_128 rfl rfl ?_
        refine vv_callV hC dX9_readPart_129 md_X9_readHouse lk_m_X9_138 lk_i_X9_readHouse lk_s_X9_readHouse h_m rfl (As := []) (rest := []) (c_X9_readHouse g w45 B hB x_thrown x_houses x_people x_paths x_acts x_size (x_at + 1) x_readHouses x_readPeople x_readPaths x_sights x_drawn text read (by omega) (by omega) (by have h := c44; simp [f_X9_readPart_x1, c46] at h; omega) h_m h_text h_read) rfl rfl (Nat.le_of_ble_eq_true rfl) ⟨by decide, by decide, by decide, by decide⟩ (fun r w9 hq => ?_)
        obtain ⟨rfl, t1, t2, hs⟩ := hq
        obtain ⟨w47, rfl⟩ : ∃ z, z = w9 := ⟨_, rfl⟩
        have h_text := hs _ _ (fun z => z.elim (fw_ao h_text h_m) (fw_inj hB (by decide) (by decide) (by decide))) h_text
        have h_readKin := hs _ _ (fun z => z.elim (fw_ao h_readKin h_m) (fw_inj hB (by decide) (by decide) (by decide))) h_readKin
        have h_readPath := hs _ _ (fun z => z.elim (fw_ao h_readPath h_m) (fw_inj hB (by decide) (by decide) (by decide))) h_readPath
        have h_readHome := hs _ _ (fun z => z.elim (fw_ao h_readHome h_m) (fw_inj hB (by decide) (by decide) (by decide))) h_readHome
        have h_m := t1
        have h_read := t2
        have hE := hE.trans (hs.mono (fun _ z => z.elim (fun z => (Or.inl z)) (fun z => (Or.inr (Or.inr (Or.inr (Or.inl z)))))))
        show V g X 3 w47 0 0 132 [(2, .int (bI (f_X9_readPart_x1 x_at x_readHouses x_readPeople text readKin readPath))), (0, .ref (B 0)), (1, .int (text x_at))] [.int (bI ((f_X9_readHouse x_size (x_at + 1) x_readHouses text read).1))]
        have hf : (f_X9_readPart x_size x_at x_readHouses x_readPeople x_readPaths text readKin readPath read readHome) = ((f_X9_readHouse x_size (x_at + 1) x_readHouses text read).1, (f_X9_readHouse x_size (x_at + 1) x_readHouses text read).2.1, (f_X9_readHouse x_size (x_at + 1) x_readHouses text read).2.2.1, x_readPeople, x_readPaths, readKin, readPath, (f_X9_readHouse x_size (x_at + 1) x_readHouses text read).2.2.2, readHome) := by first | (simp only [f_X9_readPart, if_pos c44, if_pos c46]; done) | rfl | (simp only [f_X9_readPart, if_pos c44, if_pos c46]; rfl)
        refine vv_zret hC hR rfl (bI_nar _) dX9_readPart_132 (by omega) (by omega) ?_
        rw [hf]
        try dsimp only
        exact ⟨rfl, h_m, h_readKin, h_readPath, h_read, h_readHome, hE⟩
      · by_cases c48 : text x_at = 80
        · refine vv_lookup hC 138 dX9_readPart_95 (by decide) (by rw [c48] <;> rfl) (by decide) ?_
          refine vv_aload_n hC 1 dX9_readPart_138 rfl rfl ?_
          refine vv_callV hC dX9_readPart_139 md_X9_readPerson lk_m_X9_144 lk_i_X9_readPerson lk_s_X9_readPerson h_m rfl (As := []) (rest := []) (c_X9_readPerson g w45 B hB x_thrown x_houses x_people x_paths x_acts x_size (x_at + 1) x_readHouses x_readPeople x_readPaths x_sights x_drawn text readHome read (by omega) (by omega) (by have h := c44; simp [f_X9_readPart_x1, c48] at h; omega) h_m h_text h_readHome h_read) rfl rfl (Nat.le_of_ble_eq_true rfl) ⟨by decide, by decide, by decide, by decide⟩ (fun r w9 hq => ?_)
          obtain ⟨rfl, t1, t2, t3, hs⟩ := hq
          obtain ⟨w49, rfl⟩ : ∃ z, z = w9 := ⟨_, rfl⟩
          have h_text := hs _ _ (fun z => z.elim (fw_ao h_text h_m) (fun z => z.elim (fw_inj hB (by decide) (by decide) (by decide)) (fw_inj hB (by decide) (by decide) (by decide)))) h_text
          have h_readKin := hs _ _ (fun z => z.elim (fw_ao h_readKin h_m) (fun z => z.elim (fw_inj hB (by decide) (by decide) (by decide)) (fw_inj hB (by decide) (by decide) (by decide)))) h_readKin
          have h_readPath := hs _ _ (fun z => z.elim (fw_ao h_readPath h_m) (fun z => z.elim (fw_inj hB (by decide) (by decide) (by decide)) (fw_inj hB (by decide) (by decide) (by decide)))) h_readPath
          have h_m := t1
          have h_readHome := t2
          have h_read := t3
          have hE := hE.trans (hs.mono (fun _ z => z.elim (fun z => (Or.inl z)) (fun z => z.elim (fun z => (Or.inr (Or.inr (Or.inr (Or.inr z))))) (fun z => (Or.inr (Or.inr (Or.inr (Or.inl z))))))))
          show V g X 3 w49 0 0 142 [(2, .int (bI (f_X9_readPart_x1 x_at x_readHouses x_readPeople text readKin readPath))), (0, .ref (B 0)), (1, .int (text x_at))] [.int (bI ((f_X9_readPerson x_size (x_at + 1) x_readHouses x_readPeople text readHome read).1))]
          have hf : (f_X9_readPart x_size x_at x_readHouses x_readPeople x_readPaths text readKin readPath read readHome) = ((f_X9_readPerson x_size (x_at + 1) x_readHouses x_readPeople text readHome read).1, (f_X9_readPerson x_size (x_at + 1) x_readHouses x_readPeople text readHome read).2.1, x_readHouses, (f_X9_readPerson x_size (x_at + 1) x_readHouses x_readPeople text readHome read).2.2.1, x_readPaths, readKin, readPath, (f_X9_readPerson x_size (x_at + 1) x_readHouses x_readPeople text readHome read).2.2.2.2, (f_X9_readPerson x_size (x_at + 1) x_readHouses x_readPeople text readHome read).2.2.2.1) := by first | (simp only [f_X9_readPart, if_pos c44, if_neg c46, if_pos c48]; done) | rfl | (simp only [f_X9_readPart, if_pos c44, if_neg c46, if_pos c48]; rfl)
          refine vv_zret hC hR rfl (bI_nar _) dX9_readPart_142 (by omega) (by omega) ?_
          rw [hf]
          try dsimp only
          exact ⟨rfl, h_m, h_readKin, h_readPath, h_read, h_readHome, hE⟩
        · by_cases c50 : text x_at = 82
          · refine vv_lookup hC 133 dX9_readPart_95 (by decide) (by rw [c50] <;> rfl) (by decide) ?_
            refine vv_aload_n hC 1 dX9_readPart_133 rfl rfl ?_
            refine vv_callV hC dX9_readPart_134 md_X9_readWay lk_m_X9_141 lk_i_X9_readWay lk_s_X9_readWay h_m rfl (As := []) (rest := []) (c_X9_readWay g w45 B hB x_thrown x_houses x_people x_paths x_acts x_size (x_at + 1) x_readHouses x_readPeople x_readPaths x_sights x_drawn text readPath (by omega) (by omega) (by omega) h_m h_text h_readPath) rfl rfl (Nat.le_of_ble_eq_true rfl) ⟨by decide, by decide, by decide, by decide⟩ (fun r w9 hq => ?_)
            obtain ⟨rfl, t1, t2, hs⟩ := hq
            obtain ⟨w51, rfl⟩ : ∃ z, z = w9 := ⟨_, rfl⟩
            have h_text := hs _ _ (fun z => z.elim (fw_ao h_text h_m) (fw_inj hB (by decide) (by decide) (by decide))) h_text
            have h_readKin := hs _ _ (fun z => z.elim (fw_ao h_readKin h_m) (fw_inj hB (by decide) (by decide) (by decide))) h_readKin
            have h_read := hs _ _ (fun z => z.elim (fw_ao h_read h_m) (fw_inj hB (by decide) (by decide) (by decide))) h_read
            have h_readHome := hs _ _ (fun z => z.elim (fw_ao h_readHome h_m) (fw_inj hB (by decide) (by decide) (by decide))) h_readHome
            have h_m := t1
            have h_readPath := t2
            have hE := hE.trans (hs.mono (fun _ z => z.elim (fun z => (Or.inl z)) (fun z => (Or.inr (Or.inr (Or.inl z))))))
            show V g X 3 w51 0 0 137 [(2, .int (bI (f_X9_readPart_x1 x_at x_readHouses x_readPeople text readKin readPath))), (0, .ref (B 0)), (1, .int (text x_at))] [.int (bI ((f_X9_readWay x_size (x_at + 1) x_readHouses x_readPaths text readPath).1))]
            have hf : (f_X9_readPart x_size x_at x_readHouses x_readPeople x_readPaths text readKin readPath read readHome) = ((f_X9_readWay x_size (x_at + 1) x_readHouses x_readPaths text readPath).1, (f_X9_readWay x_size (x_at + 1) x_readHouses x_readPaths text readPath).2.1, x_readHouses, x_readPeople, (f_X9_readWay x_size (x_at + 1) x_readHouses x_readPaths text readPath).2.2.1, readKin, (f_X9_readWay x_size (x_at + 1) x_readHouses x_readPaths text readPath).2.2.2, read, readHome) := by first | (simp only [f_X9_readPart, if_pos c44, if_neg c46, if_neg c48, if_pos c50]; done) | rfl | (simp only [f_X9_readPart, if_pos c44, if_neg c46, if_neg c48, if_pos c50]; rfl)
            refine vv_zret hC hR rfl (bI_nar _) dX9_readPart_137 (by omega) (by omega) ?_
            rw [hf]
            try dsimp only
            exact ⟨rfl, h_m, h_readKin, h_readPath, h_read, h_readHome, hE⟩
          · have e_c46 : ¬ (text x_at).toInt = 72 := fun h => c46 (Int32.toInt_inj.mp (h.trans (by decide)))
            have e_c48 : ¬ (text x_at).toInt = 80 := fun h => c48 (Int32.toInt_inj.mp (h.trans (by decide)))
            have e_c50 : ¬ (text x_at).toInt = 82 := fun h => c50 (Int32.toInt_inj.mp (h.trans (by decide)))
            refine vv_lookup (off := 48) hC 143 dX9_readPart_95 (by decide) (by simp [Op.lookupswitch.offset, e_c46, e_c48, e_c50, Ne.symm e_c46, Ne.symm e_c48, Ne.symm e_c50]) (by decide) ?_
            refine vv_aload_n hC 1 dX9_readPart_143 rfl rfl ?_
            refine vv_callV hC dX9_readPart_144 md_X9_readTwo lk_m_X9_147 lk_i_X9_readTwo lk_s_X9_readTwo h_m rfl (As := []) (rest := []) (c_X9_readTwo g w45 B hB x_thrown x_houses x_people x_paths x_acts x_size (x_at + 1) x_readHouses x_readPeople x_readPaths x_sights x_drawn text readKin (by omega) (by omega) (by omega) h_m h_text h_readKin) rfl rfl (Nat.le_of_ble_eq_true rfl) ⟨by decide, by decide, by decide, by decide⟩ (fun r w9 hq => ?_)
            obtain ⟨rfl, t1, t2, hs⟩ := hq
            obtain ⟨w52, rfl⟩ : ∃ z, z = w9 := ⟨_, rfl⟩
            have h_text := hs _ _ (fun z => z.elim (fw_ao h_text h_m) (fw_inj hB (by decide) (by decide) (by decide))) h_text
            have h_readPath := hs _ _ (fun z => z.elim (fw_ao h_readPath h_m) (fw_inj hB (by decide) (by decide) (by decide))) h_readPath
            have h_read := hs _ _ (fun z => z.elim (fw_ao h_read h_m) (fw_inj hB (by decide) (by decide) (by decide))) h_read
            have h_readHome := hs _ _ (fun z => z.elim (fw_ao h_readHome h_m) (fw_inj hB (by decide) (by decide) (by decide))) h_readHome
            have h_m := t1
            have h_readKin := t2
            have hE := hE.trans (hs.mono (fun _ z => z.elim (fun z => (Or.inl z)) (fun z => (Or.inr (Or.inl z)))))
            show V g X 3 w52 0 0 147 [(2, .int (bI (f_X9_readPart_x1 x_at x_readHouses x_readPeople text readKin readPath))), (0, .ref (B 0)), (1, .int (text x_at))] [.int (bI ((f_X9_readTwo x_size (x_at + 1) x_readPeople text readKin).1))]
            have hf : (f_X9_readPart x_size x_at x_readHouses x_readPeople x_readPaths text readKin readPath read readHome) = ((f_X9_readTwo x_size (x_at + 1) x_readPeople text readKin).1, (f_X9_readTwo x_size (x_at + 1) x_readPeople text readKin).2.1, x_readHouses, x_readPeople, x_readPaths, (f_X9_readTwo x_size (x_at + 1) x_readPeople text readKin).2.2, readPath, read, readHome) := by first | (simp only [f_X9_readPart, if_pos c44, if_neg c46, if_neg c48, if_neg c50]; done) | rfl | (simp only [f_X9_readPart, if_pos c44, if_neg c46, if_neg c48, if_neg c50]; rfl)
            refine vv_zret hC hR rfl (bI_nar _) dX9_readPart_147 (by omega) (by omega) ?_
            rw [hf]
            try dsimp only
            exact ⟨rfl, h_m, h_readKin, h_readPath, h_read, h_readHome, hE⟩
    · have c44 : ¬ ((f_X9_readPart_x1 x_at x_readHouses x_readPeople text readKin readPath) = true) := bI_f c44
      refine vv_iconst (v := 0) hC dX9_readPart_82 (by decide) ?_
      have hf : (f_X9_readPart x_size x_at x_readHouses x_readPeople x_readPaths text readKin readPath read readHome) = (false, x_at, x_readHouses, x_readPeople, x_readPaths, readKin, readPath, read, readHome) := by first | (simp only [f_X9_readPart, if_neg c44]; done) | rfl | (simp only [f_X9_readPart, if_neg c44]; rfl)
      refine vv_zret hC hR rfl (by decide) dX9_readPart_83 (by omega) (by omega) ?_
      rw [hf]
      try dsimp only
      exact ⟨rfl, h_m, h_readKin, h_readPath, h_read, h_readHome, hE⟩
  refine vv_icmp_ne hC 24 dX9_readPart_13 (by decide) (fun c1 => ?_) (fun c1 => ?_)
  · have c1 : ¬ (text x_at = 72) := c1
    refine vv_iload_n hC 0 dX9_readPart_24 rfl rfl ?_
    refine vv_bipush (v := (82)) hC dX9_readPart_25 (by decide) ?_
    refine vv_icmp_ne hC 37 dX9_readPart_27 (by decide) (fun c3 => ?_) (fun c3 => ?_)
    · have c3 : ¬ (text x_at = 82) := c3
      refine vv_iload_n hC 0 dX9_readPart_37 rfl rfl ?_
      refine vv_bipush (v := (80)) hC dX9_readPart_38 (by decide) ?_
      refine vv_icmp_ne hC 59 dX9_readPart_40 (by decide) (fun c4 => ?_) (fun c4 => ?_)
      · have c4 : ¬ (text x_at = 80) := c4
        refine vv_iload_n hC 0 dX9_readPart_59 rfl rfl ?_
        refine vv_bipush (v := (75)) hC dX9_readPart_60 (by decide) ?_
        refine vv_icmp_ne hC 76 dX9_readPart_62 (by decide) (fun c5 => ?_) (fun c5 => ?_)
        · have c5 : ¬ (text x_at = 75) := c5
          refine vv_iconst (v := 0) hC dX9_readPart_76 (by decide) ?_
          refine vv_lv [1, 0] rfl ?_
          have hz := hJ2
          try simp only [f_X9_readPart_x1, if_neg c1, if_neg c3, if_neg c4, if_neg c5] at hz
          first | exact hz | (simp only [f_X9_readPart_x1, if_neg c1, if_neg c3, if_neg c4, if_neg c5]; exact hz)
        · have c5 : text x_at = 75 := c5
          refine vv_aload_n hC 1 dX9_readPart_65 rfl rfl ?_
          refine vv_callV hC dX9_readPart_66 md_X9_hasAnyOther lk_m_X9_135 lk_i_X9_hasAnyOther lk_s_X9_hasAnyOther h_m rfl (As := []) (rest := []) (c_X9_hasAnyOther g w0 B hB x_thrown x_houses x_people x_paths x_acts x_size x_at x_readHouses x_readPeople x_readPaths x_sights x_drawn readKin (by omega) h_m h_readKin) rfl rfl (Nat.le_of_ble_eq_true rfl) ⟨by decide, by decide, by decide, by decide⟩ (fun r w9 hq => ?_)
          obtain ⟨rfl, rfl⟩ := hq
          show V g X 3 w0 0 0 69 [(1, .int (text x_at)), (0, .ref (B 0))] [.int (bI (f_X9_hasAnyOther x_readPeople readKin))]
          refine vv_if_eq hC 76 dX9_readPart_69 (by decide) (fun c6 => ?_) (fun c6 => ?_)
          · have c6 : ¬ (f_X9_hasAnyOther x_readPeople readKin = true) := bI_f c6
            refine vv_iconst (v := 0) hC dX9_readPart_76 (by decide) ?_
            refine vv_lv [1, 0] rfl ?_
            have hz := hJ2
            try simp only [f_X9_readPart_x1, if_neg c1, if_neg c3, if_neg c4, if_pos c5, if_neg c6] at hz
            first | exact hz | (simp only [f_X9_readPart_x1, if_neg c1, if_neg c3, if_neg c4, if_pos c5, if_neg c6]; exact hz)
          · have c6 : f_X9_hasAnyOther x_readPeople readKin = true := bI_t c6
            refine vv_iconst (v := 1) hC dX9_readPart_72 (by decide) ?_
            refine vv_goto hC 77 dX9_readPart_73 (by decide) ?_
            refine vv_lv [1, 0] rfl ?_
            have hz := hJ2
            try simp only [f_X9_readPart_x1, if_neg c1, if_neg c3, if_neg c4, if_pos c5, if_pos c6] at hz
            first | exact hz | (simp only [f_X9_readPart_x1, if_neg c1, if_neg c3, if_neg c4, if_pos c5, if_pos c6]; exact hz)
      · have c4 : text x_at = 80 := c4
        refine vv_aload_n hC 1 dX9_readPart_43 rfl rfl ?_
        refine vv_get (v := .int (nI x_readHouses)) hC fl_X9_109 dX9_readPart_44 h_m rfl ?_
        refine vv_if_le hC 59 dX9_readPart_47 (by decide) (fun c7 => ?_) (fun c7 => ?_)
        · have c7 : x_readHouses = 0 := Nat.le_zero.mp ((nI_le_ (a := x_readHouses) (b := 0) (by omega) (by omega)).mp c7)
          refine vv_iload_n hC 0 dX9_readPart_59 rfl rfl ?_
          refine vv_bipush (v := (75)) hC dX9_readPart_60 (by decide) ?_
          refine vv_icmp_ne hC 76 dX9_readPart_62 (by decide) (fun c8 => ?_) (fun c8 => ?_)
          · have c8 : ¬ (text x_at = 75) := c8
            refine vv_iconst (v := 0) hC dX9_readPart_76 (by decide) ?_
            refine vv_lv [1, 0] rfl ?_
            have hz := hJ2
            try simp only [f_X9_readPart_x1, if_neg c1, if_neg c3, if_pos c4, if_pos c7, if_neg c8] at hz
            first | exact hz | (simp only [f_X9_readPart_x1, if_neg c1, if_neg c3, if_pos c4, if_pos c7, if_neg c8]; exact hz)
          · have c8 : text x_at = 75 := c8
            refine vv_aload_n hC 1 dX9_readPart_65 rfl rfl ?_
            refine vv_callV hC dX9_readPart_66 md_X9_hasAnyOther lk_m_X9_135 lk_i_X9_hasAnyOther lk_s_X9_hasAnyOther h_m rfl (As := []) (rest := []) (c_X9_hasAnyOther g w0 B hB x_thrown x_houses x_people x_paths x_acts x_size x_at x_readHouses x_readPeople x_readPaths x_sights x_drawn readKin (by omega) h_m h_readKin) rfl rfl (Nat.le_of_ble_eq_true rfl) ⟨by decide, by decide, by decide, by decide⟩ (fun r w9 hq => ?_)
            obtain ⟨rfl, rfl⟩ := hq
            show V g X 3 w0 0 0 69 [(1, .int (text x_at)), (0, .ref (B 0))] [.int (bI (f_X9_hasAnyOther x_readPeople readKin))]
            refine vv_if_eq hC 76 dX9_readPart_69 (by decide) (fun c9 => ?_) (fun c9 => ?_)
            · have c9 : ¬ (f_X9_hasAnyOther x_readPeople readKin = true) := bI_f c9
              refine vv_iconst (v := 0) hC dX9_readPart_76 (by decide) ?_
              refine vv_lv [1, 0] rfl ?_
              have hz := hJ2
              try simp only [f_X9_readPart_x1, if_neg c1, if_neg c3, if_pos c4, if_pos c7, if_pos c8, if_neg c9] at hz
              first | exact hz | (simp only [f_X9_readPart_x1, if_neg c1, if_neg c3, if_pos c4, if_pos c7, if_pos c8, if_neg c9]; exact hz)
            · have c9 : f_X9_hasAnyOther x_readPeople readKin = true := bI_t c9
              refine vv_iconst (v := 1) hC dX9_readPart_72 (by decide) ?_
              refine vv_goto hC 77 dX9_readPart_73 (by decide) ?_
              refine vv_lv [1, 0] rfl ?_
              have hz := hJ2
              try simp only [f_X9_readPart_x1, if_neg c1, if_neg c3, if_pos c4, if_pos c7, if_pos c8, if_pos c9] at hz
              first | exact hz | (simp only [f_X9_readPart_x1, if_neg c1, if_neg c3, if_pos c4, if_pos c7, if_pos c8, if_pos c9]; exact hz)
        · have c7 : ¬ (x_readHouses = 0) := fun z => c7 ((nI_le_ (a := x_readHouses) (b := 0) (by omega) (by omega)).mpr (Nat.le_of_eq z))
          refine vv_aload_n hC 1 dX9_readPart_50 rfl rfl ?_
          refine vv_get (v := .int (nI x_readPeople)) hC fl_X9_115 dX9_readPart_51 h_m rfl ?_
          refine vv_bipush (v := (6)) hC dX9_readPart_54 (by decide) ?_
          refine vv_icmp_lt hC 72 dX9_readPart_56 (by decide) (fun c10 => ?_) (fun c10 => ?_)
          · have c10 : x_readPeople < 6 := (nI_lt_ (a := x_readPeople) (b := 6) (by omega) (by omega)).mp c10
            refine vv_iconst (v := 1) hC dX9_readPart_72 (by decide) ?_
            refine vv_goto hC 77 dX9_readPart_73 (by decide) ?_
            refine vv_lv [1, 0] rfl ?_
            have hz := hJ2
            try simp only [f_X9_readPart_x1, if_neg c1, if_neg c3, if_pos c4, if_neg c7, if_pos c10] at hz
            first | exact hz | (simp only [f_X9_readPart_x1, if_neg c1, if_neg c3, if_pos c4, if_neg c7, if_pos c10]; exact hz)
          · have c10 : ¬ (x_readPeople < 6) := fun z => c10 ((nI_lt_ (a := x_readPeople) (b := 6) (by omega) (by omega)).mpr z)
            refine vv_iload_n hC 0 dX9_readPart_59 rfl rfl ?_
            refine vv_bipush (v := (75)) hC dX9_readPart_60 (by decide) ?_
            refine vv_icmp_ne hC 76 dX9_readPart_62 (by decide) (fun c11 => ?_) (fun c11 => ?_)
            · have c11 : ¬ (text x_at = 75) := c11
              refine vv_iconst (v := 0) hC dX9_readPart_76 (by decide) ?_
              refine vv_lv [1, 0] rfl ?_
              have hz := hJ2
              try simp only [f_X9_readPart_x1, if_neg c1, if_neg c3, if_pos c4, if_neg c7, if_neg c10, if_neg c11] at hz
              first | exact hz | (simp only [f_X9_readPart_x1, if_neg c1, if_neg c3, if_pos c4, if_neg c7, if_neg c10, if_neg c11]; exact hz)
            · have c11 : text x_at = 75 := c11
              refine vv_aload_n hC 1 dX9_readPart_65 rfl rfl ?_
              refine vv_callV hC dX9_readPart_66 md_X9_hasAnyOther lk_m_X9_135 lk_i_X9_hasAnyOther lk_s_X9_hasAnyOther h_m rfl (As := []) (rest := []) (c_X9_hasAnyOther g w0 B hB x_thrown x_houses x_people x_paths x_acts x_size x_at x_readHouses x_readPeople x_readPaths x_sights x_drawn readKin (by omega) h_m h_readKin) rfl rfl (Nat.le_of_ble_eq_true rfl) ⟨by decide, by decide, by decide, by decide⟩ (fun r w9 hq => ?_)
              obtain ⟨rfl, rfl⟩ := hq
              show V g X 3 w0 0 0 69 [(1, .int (text x_at)), (0, .ref (B 0))] [.int (bI (f_X9_hasAnyOther x_readPeople readKin))]
              refine vv_if_eq hC 76 dX9_readPart_69 (by decide) (fun c12 => ?_) (fun c12 => ?_)
              · have c12 : ¬ (f_X9_hasAnyOther x_readPeople readKin = true) := bI_f c12
                refine vv_iconst (v := 0) hC dX9_readPart_76 (by decide) ?_
                refine vv_lv [1, 0] rfl ?_
                have hz := hJ2
                try simp only [f_X9_readPart_x1, if_neg c1, if_neg c3, if_pos c4, if_neg c7, if_neg c10, if_pos c11, if_neg c12] at hz
                first | exact hz | (simp only [f_X9_readPart_x1, if_neg c1, if_neg c3, if_pos c4, if_neg c7, if_neg c10, if_pos c11, if_neg c12]; exact hz)
              · have c12 : f_X9_hasAnyOther x_readPeople readKin = true := bI_t c12
                refine vv_iconst (v := 1) hC dX9_readPart_72 (by decide) ?_
                refine vv_goto hC 77 dX9_readPart_73 (by decide) ?_
                refine vv_lv [1, 0] rfl ?_
                have hz := hJ2
                try simp only [f_X9_readPart_x1, if_neg c1, if_neg c3, if_pos c4, if_neg c7, if_neg c10, if_pos c11, if_pos c12] at hz
                first | exact hz | (simp only [f_X9_readPart_x1, if_neg c1, if_neg c3, if_pos c4, if_neg c7, if_neg c10, if_pos c11, if_pos c12]; exact hz)
    · have c3 : text x_at = 82 := c3
      refine vv_aload_n hC 1 dX9_readPart_30 rfl rfl ?_
      refine vv_callV hC dX9_readPart_31 md_X9_hasAnyWay lk_m_X9_131 lk_i_X9_hasAnyWay lk_s_X9_hasAnyWay h_m rfl (As := []) (rest := []) (c_X9_hasAnyWay g w0 B hB x_thrown x_houses x_people x_paths x_acts x_size x_at x_readHouses x_readPeople x_readPaths x_sights x_drawn readPath (by omega) h_m h_readPath) rfl rfl (Nat.le_of_ble_eq_true rfl) ⟨by decide, by decide, by decide, by decide⟩ (fun r w9 hq => ?_)
      obtain ⟨rfl, rfl⟩ := hq
      show V g X 3 w0 0 0 34 [(1, .int (text x_at)), (0, .ref (B 0))] [.int (bI (f_X9_hasAnyWay x_readHouses readPath))]
      refine vv_if_ne hC 72 dX9_readPart_34 (by decide) (fun c13 => ?_) (fun c13 => ?_)
      · have c13 : f_X9_hasAnyWay x_readHouses readPath = true := bI_t c13
        refine vv_iconst (v := 1) hC dX9_readPart_72 (by decide) ?_
        refine vv_goto hC 77 dX9_readPart_73 (by decide) ?_
        refine vv_lv [1, 0] rfl ?_
        have hz := hJ2
        try simp only [f_X9_readPart_x1, if_neg c1, if_pos c3, if_pos c13] at hz
        first | exact hz | (simp only [f_X9_readPart_x1, if_neg c1, if_pos c3, if_pos c13]; exact hz)
      · have c13 : ¬ (f_X9_hasAnyWay x_readHouses readPath = true) := bI_f c13
        refine vv_iload_n hC 0 dX9_readPart_37 rfl rfl ?_
        refine vv_bipush (v := (80)) hC dX9_readPart_38 (by decide) ?_
        refine vv_icmp_ne hC 59 dX9_readPart_40 (by decide) (fun c14 => ?_) (fun c14 => ?_)
        · have c14 : ¬ (text x_at = 80) := c14
          refine vv_iload_n hC 0 dX9_readPart_59 rfl rfl ?_
          refine vv_bipush (v := (75)) hC dX9_readPart_60 (by decide) ?_
          refine vv_icmp_ne hC 76 dX9_readPart_62 (by decide) (fun c15 => ?_) (fun c15 => ?_)
          · have c15 : ¬ (text x_at = 75) := c15
            refine vv_iconst (v := 0) hC dX9_readPart_76 (by decide) ?_
            refine vv_lv [1, 0] rfl ?_
            have hz := hJ2
            try simp only [f_X9_readPart_x1, if_neg c1, if_pos c3, if_neg c13, if_neg c14, if_neg c15] at hz
            first | exact hz | (simp only [f_X9_readPart_x1, if_neg c1, if_pos c3, if_neg c13, if_neg c14, if_neg c15]; exact hz)
          · have c15 : text x_at = 75 := c15
            refine vv_aload_n hC 1 dX9_readPart_65 rfl rfl ?_
            refine vv_callV hC dX9_readPart_66 md_X9_hasAnyOther lk_m_X9_135 lk_i_X9_hasAnyOther lk_s_X9_hasAnyOther h_m rfl (As := []) (rest := []) (c_X9_hasAnyOther g w0 B hB x_thrown x_houses x_people x_paths x_acts x_size x_at x_readHouses x_readPeople x_readPaths x_sights x_drawn readKin (by omega) h_m h_readKin) rfl rfl (Nat.le_of_ble_eq_true rfl) ⟨by decide, by decide, by decide, by decide⟩ (fun r w9 hq => ?_)
            obtain ⟨rfl, rfl⟩ := hq
            show V g X 3 w0 0 0 69 [(1, .int (text x_at)), (0, .ref (B 0))] [.int (bI (f_X9_hasAnyOther x_readPeople readKin))]
            refine vv_if_eq hC 76 dX9_readPart_69 (by decide) (fun c16 => ?_) (fun c16 => ?_)
            · have c16 : ¬ (f_X9_hasAnyOther x_readPeople readKin = true) := bI_f c16
              refine vv_iconst (v := 0) hC dX9_readPart_76 (by decide) ?_
              refine vv_lv [1, 0] rfl ?_
              have hz := hJ2
              try simp only [f_X9_readPart_x1, if_neg c1, if_pos c3, if_neg c13, if_neg c14, if_pos c15, if_neg c16] at hz
              first | exact hz | (simp only [f_X9_readPart_x1, if_neg c1, if_pos c3, if_neg c13, if_neg c14, if_pos c15, if_neg c16]; exact hz)
            · have c16 : f_X9_hasAnyOther x_readPeople readKin = true := bI_t c16
              refine vv_iconst (v := 1) hC dX9_readPart_72 (by decide) ?_
              refine vv_goto hC 77 dX9_readPart_73 (by decide) ?_
              refine vv_lv [1, 0] rfl ?_
              have hz := hJ2
              try simp only [f_X9_readPart_x1, if_neg c1, if_pos c3, if_neg c13, if_neg c14, if_pos c15, if_pos c16] at hz
              first | exact hz | (simp only [f_X9_readPart_x1, if_neg c1, if_pos c3, if_neg c13, if_neg c14, if_pos c15, if_pos c16]; exact hz)
        · have c14 : text x_at = 80 := c14
          refine vv_aload_n hC 1 dX9_readPart_43 rfl rfl ?_
          refine vv_get (v := .int (nI x_readHouses)) hC fl_X9_109 dX9_readPart_44 h_m rfl ?_
          refine vv_if_le hC 59 dX9_readPart_47 (by decide) (fun c17 => ?_) (fun c17 => ?_)
          · have c17 : x_readHouses = 0 := Nat.le_zero.mp ((nI_le_ (a := x_readHouses) (b := 0) (by omega) (by omega)).mp c17)
            refine vv_iload_n hC 0 dX9_readPart_59 rfl rfl ?_
            refine vv_bipush (v := (75)) hC dX9_readPart_60 (by decide) ?_
            refine vv_icmp_ne hC 76 dX9_readPart_62 (by decide) (fun c18 => ?_) (fun c18 => ?_)
            · have c18 : ¬ (text x_at = 75) := c18
              refine vv_iconst (v := 0) hC dX9_readPart_76 (by decide) ?_
              refine vv_lv [1, 0] rfl ?_
              have hz := hJ2
              try simp only [f_X9_readPart_x1, if_neg c1, if_pos c3, if_neg c13, if_pos c14, if_pos c17, if_neg c18] at hz
              first | exact hz | (simp only [f_X9_readPart_x1, if_neg c1, if_pos c3, if_neg c13, if_pos c14, if_pos c17, if_neg c18]; exact hz)
            · have c18 : text x_at = 75 := c18
              refine vv_aload_n hC 1 dX9_readPart_65 rfl rfl ?_
              refine vv_callV hC dX9_readPart_66 md_X9_hasAnyOther lk_m_X9_135 lk_i_X9_hasAnyOther lk_s_X9_hasAnyOther h_m rfl (As := []) (rest := []) (c_X9_hasAnyOther g w0 B hB x_thrown x_houses x_people x_paths x_acts x_size x_at x_readHouses x_readPeople x_readPaths x_sights x_drawn readKin (by omega) h_m h_readKin) rfl rfl (Nat.le_of_ble_eq_true rfl) ⟨by decide, by decide, by decide, by decide⟩ (fun r w9 hq => ?_)
              obtain ⟨rfl, rfl⟩ := hq
              show V g X 3 w0 0 0 69 [(1, .int (text x_at)), (0, .ref (B 0))] [.int (bI (f_X9_hasAnyOther x_readPeople readKin))]
              refine vv_if_eq hC 76 dX9_readPart_69 (by decide) (fun c19 => ?_) (fun c19 => ?_)
              · have c19 : ¬ (f_X9_hasAnyOther x_readPeople readKin = true) := bI_f c19
                refine vv_iconst (v := 0) hC dX9_readPart_76 (by decide) ?_
                refine vv_lv [1, 0] rfl ?_
                have hz := hJ2
                try simp only [f_X9_readPart_x1, if_neg c1, if_pos c3, if_neg c13, if_pos c14, if_pos c17, if_pos c18, if_neg c19] at hz
                first | exact hz | (simp only [f_X9_readPart_x1, if_neg c1, if_pos c3, if_neg c13, if_pos c14, if_pos c17, if_pos c18, if_neg c19]; exact hz)
              · have c19 : f_X9_hasAnyOther x_readPeople readKin = true := bI_t c19
                refine vv_iconst (v := 1) hC dX9_readPart_72 (by decide) ?_
                refine vv_goto hC 77 dX9_readPart_73 (by decide) ?_
                refine vv_lv [1, 0] rfl ?_
                have hz := hJ2
                try simp only [f_X9_readPart_x1, if_neg c1, if_pos c3, if_neg c13, if_pos c14, if_pos c17, if_pos c18, if_pos c19] at hz
                first | exact hz | (simp only [f_X9_readPart_x1, if_neg c1, if_pos c3, if_neg c13, if_pos c14, if_pos c17, if_pos c18, if_pos c19]; exact hz)
          · have c17 : ¬ (x_readHouses = 0) := fun z => c17 ((nI_le_ (a := x_readHouses) (b := 0) (by omega) (by omega)).mpr (Nat.le_of_eq z))
            refine vv_aload_n hC 1 dX9_readPart_50 rfl rfl ?_
            refine vv_get (v := .int (nI x_readPeople)) hC fl_X9_115 dX9_readPart_51 h_m rfl ?_
            refine vv_bipush (v := (6)) hC dX9_readPart_54 (by decide) ?_
            refine vv_icmp_lt hC 72 dX9_readPart_56 (by decide) (fun c20 => ?_) (fun c20 => ?_)
            · have c20 : x_readPeople < 6 := (nI_lt_ (a := x_readPeople) (b := 6) (by omega) (by omega)).mp c20
              refine vv_iconst (v := 1) hC dX9_readPart_72 (by decide) ?_
              refine vv_goto hC 77 dX9_readPart_73 (by decide) ?_
              refine vv_lv [1, 0] rfl ?_
              have hz := hJ2
              try simp only [f_X9_readPart_x1, if_neg c1, if_pos c3, if_neg c13, if_pos c14, if_neg c17, if_pos c20] at hz
              first | exact hz | (simp only [f_X9_readPart_x1, if_neg c1, if_pos c3, if_neg c13, if_pos c14, if_neg c17, if_pos c20]; exact hz)
            · have c20 : ¬ (x_readPeople < 6) := fun z => c20 ((nI_lt_ (a := x_readPeople) (b := 6) (by omega) (by omega)).mpr z)
              refine vv_iload_n hC 0 dX9_readPart_59 rfl rfl ?_
              refine vv_bipush (v := (75)) hC dX9_readPart_60 (by decide) ?_
              refine vv_icmp_ne hC 76 dX9_readPart_62 (by decide) (fun c21 => ?_) (fun c21 => ?_)
              · have c21 : ¬ (text x_at = 75) := c21
                refine vv_iconst (v := 0) hC dX9_readPart_76 (by decide) ?_
                refine vv_lv [1, 0] rfl ?_
                have hz := hJ2
                try simp only [f_X9_readPart_x1, if_neg c1, if_pos c3, if_neg c13, if_pos c14, if_neg c17, if_neg c20, if_neg c21] at hz
                first | exact hz | (simp only [f_X9_readPart_x1, if_neg c1, if_pos c3, if_neg c13, if_pos c14, if_neg c17, if_neg c20, if_neg c21]; exact hz)
              · have c21 : text x_at = 75 := c21
                refine vv_aload_n hC 1 dX9_readPart_65 rfl rfl ?_
                refine vv_callV hC dX9_readPart_66 md_X9_hasAnyOther lk_m_X9_135 lk_i_X9_hasAnyOther lk_s_X9_hasAnyOther h_m rfl (As := []) (rest := []) (c_X9_hasAnyOther g w0 B hB x_thrown x_houses x_people x_paths x_acts x_size x_at x_readHouses x_readPeople x_readPaths x_sights x_drawn readKin (by omega) h_m h_readKin) rfl rfl (Nat.le_of_ble_eq_true rfl) ⟨by decide, by decide, by decide, by decide⟩ (fun r w9 hq => ?_)
                obtain ⟨rfl, rfl⟩ := hq
                show V g X 3 w0 0 0 69 [(1, .int (text x_at)), (0, .ref (B 0))] [.int (bI (f_X9_hasAnyOther x_readPeople readKin))]
                refine vv_if_eq hC 76 dX9_readPart_69 (by decide) (fun c22 => ?_) (fun c22 => ?_)
                · have c22 : ¬ (f_X9_hasAnyOther x_readPeople readKin = true) := bI_f c22
                  refine vv_iconst (v := 0) hC dX9_readPart_76 (by decide) ?_
                  refine vv_lv [1, 0] rfl ?_
                  have hz := hJ2
                  try simp only [f_X9_readPart_x1, if_neg c1, if_pos c3, if_neg c13, if_pos c14, if_neg c17, if_neg c20, if_pos c21, if_neg c22] at hz
                  first | exact hz | (simp only [f_X9_readPart_x1, if_neg c1, if_pos c3, if_neg c13, if_pos c14, if_neg c17, if_neg c20, if_pos c21, if_neg c22]; exact hz)
                · have c22 : f_X9_hasAnyOther x_readPeople readKin = true := bI_t c22
                  refine vv_iconst (v := 1) hC dX9_readPart_72 (by decide) ?_
                  refine vv_goto hC 77 dX9_readPart_73 (by decide) ?_
                  refine vv_lv [1, 0] rfl ?_
                  have hz := hJ2
                  try simp only [f_X9_readPart_x1, if_neg c1, if_pos c3, if_neg c13, if_pos c14, if_neg c17, if_neg c20, if_pos c21, if_pos c22] at hz
                  first | exact hz | (simp only [f_X9_readPart_x1, if_neg c1, if_pos c3, if_neg c13, if_pos c14, if_neg c17, if_neg c20, if_pos c21, if_pos c22]; exact hz)
  · have c1 : text x_at = 72 := c1
    refine vv_aload_n hC 1 dX9_readPart_16 rfl rfl ?_
    refine vv_get (v := .int (nI x_readHouses)) hC fl_X9_109 dX9_readPart_17 h_m rfl ?_
    refine vv_iconst (v := 4) hC dX9_readPart_20 (by decide) ?_
    refine vv_icmp_lt hC 72 dX9_readPart_21 (by decide) (fun c23 => ?_) (fun c23 => ?_)
    · have c23 : x_readHouses < 4 := (nI_lt_ (a := x_readHouses) (b := 4) (by omega) (by omega)).mp c23
      refine vv_iconst (v := 1) hC dX9_readPart_72 (by decide) ?_
      refine vv_goto hC 77 dX9_readPart_73 (by decide) ?_
      refine vv_lv [1, 0] rfl ?_
      have hz := hJ2
      try simp only [f_X9_readPart_x1, if_pos c1, if_pos c23] at hz
      first | exact hz | (simp only [f_X9_readPart_x1, if_pos c1, if_pos c23]; exact hz)
    · have c23 : ¬ (x_readHouses < 4) := fun z => c23 ((nI_lt_ (a := x_readHouses) (b := 4) (by omega) (by omega)).mpr z)
      refine vv_iload_n hC 0 dX9_readPart_24 rfl rfl ?_
      refine vv_bipush (v := (82)) hC dX9_readPart_25 (by decide) ?_
      refine vv_icmp_ne hC 37 dX9_readPart_27 (by decide) (fun c24 => ?_) (fun c24 => ?_)
      · have c24 : ¬ (text x_at = 82) := c24
        refine vv_iload_n hC 0 dX9_readPart_37 rfl rfl ?_
        refine vv_bipush (v := (80)) hC dX9_readPart_38 (by decide) ?_
        refine vv_icmp_ne hC 59 dX9_readPart_40 (by decide) (fun c25 => ?_) (fun c25 => ?_)
        · have c25 : ¬ (text x_at = 80) := c25
          refine vv_iload_n hC 0 dX9_readPart_59 rfl rfl ?_
          refine vv_bipush (v := (75)) hC dX9_readPart_60 (by decide) ?_
          refine vv_icmp_ne hC 76 dX9_readPart_62 (by decide) (fun c26 => ?_) (fun c26 => ?_)
          · have c26 : ¬ (text x_at = 75) := c26
            refine vv_iconst (v := 0) hC dX9_readPart_76 (by decide) ?_
            refine vv_lv [1, 0] rfl ?_
            have hz := hJ2
            try simp only [f_X9_readPart_x1, if_pos c1, if_neg c23, if_neg c24, if_neg c25, if_neg c26] at hz
            first | exact hz | (simp only [f_X9_readPart_x1, if_pos c1, if_neg c23, if_neg c24, if_neg c25, if_neg c26]; exact hz)
          · have c26 : text x_at = 75 := c26
            refine vv_aload_n hC 1 dX9_readPart_65 rfl rfl ?_
            refine vv_callV hC dX9_readPart_66 md_X9_hasAnyOther lk_m_X9_135 lk_i_X9_hasAnyOther lk_s_X9_hasAnyOther h_m rfl (As := []) (rest := []) (c_X9_hasAnyOther g w0 B hB x_thrown x_houses x_people x_paths x_acts x_size x_at x_readHouses x_readPeople x_readPaths x_sights x_drawn readKin (by omega) h_m h_readKin) rfl rfl (Nat.le_of_ble_eq_true rfl) ⟨by decide, by decide, by decide, by decide⟩ (fun r w9 hq => ?_)
            obtain ⟨rfl, rfl⟩ := hq
            show V g X 3 w0 0 0 69 [(1, .int (text x_at)), (0, .ref (B 0))] [.int (bI (f_X9_hasAnyOther x_readPeople readKin))]
            refine vv_if_eq hC 76 dX9_readPart_69 (by decide) (fun c27 => ?_) (fun c27 => ?_)
            · have c27 : ¬ (f_X9_hasAnyOther x_readPeople readKin = true) := bI_f c27
              refine vv_iconst (v := 0) hC dX9_readPart_76 (by decide) ?_
              refine vv_lv [1, 0] rfl ?_
              have hz := hJ2
              try simp only [f_X9_readPart_x1, if_pos c1, if_neg c23, if_neg c24, if_neg c25, if_pos c26, if_neg c27] at hz
              first | exact hz | (simp only [f_X9_readPart_x1, if_pos c1, if_neg c23, if_neg c24, if_neg c25, if_pos c26, if_neg c27]; exact hz)
            · have c27 : f_X9_hasAnyOther x_readPeople readKin = true := bI_t c27
              refine vv_iconst (v := 1) hC dX9_readPart_72 (by decide) ?_
              refine vv_goto hC 77 dX9_readPart_73 (by decide) ?_
              refine vv_lv [1, 0] rfl ?_
              have hz := hJ2
              try simp only [f_X9_readPart_x1, if_pos c1, if_neg c23, if_neg c24, if_neg c25, if_pos c26, if_pos c27] at hz
              first | exact hz | (simp only [f_X9_readPart_x1, if_pos c1, if_neg c23, if_neg c24, if_neg c25, if_pos c26, if_pos c27]; exact hz)
        · have c25 : text x_at = 80 := c25
          refine vv_aload_n hC 1 dX9_readPart_43 rfl rfl ?_
          refine vv_get (v := .int (nI x_readHouses)) hC fl_X9_109 dX9_readPart_44 h_m rfl ?_
          refine vv_if_le hC 59 dX9_readPart_47 (by decide) (fun c28 => ?_) (fun c28 => ?_)
          · have c28 : x_readHouses = 0 := Nat.le_zero.mp ((nI_le_ (a := x_readHouses) (b := 0) (by omega) (by omega)).mp c28)
            refine vv_iload_n hC 0 dX9_readPart_59 rfl rfl ?_
            refine vv_bipush (v := (75)) hC dX9_readPart_60 (by decide) ?_
            refine vv_icmp_ne hC 76 dX9_readPart_62 (by decide) (fun c29 => ?_) (fun c29 => ?_)
            · have c29 : ¬ (text x_at = 75) := c29
              refine vv_iconst (v := 0) hC dX9_readPart_76 (by decide) ?_
              refine vv_lv [1, 0] rfl ?_
              have hz := hJ2
              try simp only [f_X9_readPart_x1, if_pos c1, if_neg c23, if_neg c24, if_pos c25, if_pos c28, if_neg c29] at hz
              first | exact hz | (simp only [f_X9_readPart_x1, if_pos c1, if_neg c23, if_neg c24, if_pos c25, if_pos c28, if_neg c29]; exact hz)
            · have c29 : text x_at = 75 := c29
              refine vv_aload_n hC 1 dX9_readPart_65 rfl rfl ?_
              refine vv_callV hC dX9_readPart_66 md_X9_hasAnyOther lk_m_X9_135 lk_i_X9_hasAnyOther lk_s_X9_hasAnyOther h_m rfl (As := []) (rest := []) (c_X9_hasAnyOther g w0 B hB x_thrown x_houses x_people x_paths x_acts x_size x_at x_readHouses x_readPeople x_readPaths x_sights x_drawn readKin (by omega) h_m h_readKin) rfl rfl (Nat.le_of_ble_eq_true rfl) ⟨by decide, by decide, by decide, by decide⟩ (fun r w9 hq => ?_)
              obtain ⟨rfl, rfl⟩ := hq
              show V g X 3 w0 0 0 69 [(1, .int (text x_at)), (0, .ref (B 0))] [.int (bI (f_X9_hasAnyOther x_readPeople readKin))]
              refine vv_if_eq hC 76 dX9_readPart_69 (by decide) (fun c30 => ?_) (fun c30 => ?_)
              · have c30 : ¬ (f_X9_hasAnyOther x_readPeople readKin = true) := bI_f c30
                refine vv_iconst (v := 0) hC dX9_readPart_76 (by decide) ?_
                refine vv_lv [1, 0] rfl ?_
                have hz := hJ2
                try simp only [f_X9_readPart_x1, if_pos c1, if_neg c23, if_neg c24, if_pos c25, if_pos c28, if_pos c29, if_neg c30] at hz
                first | exact hz | (simp only [f_X9_readPart_x1, if_pos c1, if_neg c23, if_neg c24, if_pos c25, if_pos c28, if_pos c29, if_neg c30]; exact hz)
              · have c30 : f_X9_hasAnyOther x_readPeople readKin = true := bI_t c30
                refine vv_iconst (v := 1) hC dX9_readPart_72 (by decide) ?_
                refine vv_goto hC 77 dX9_readPart_73 (by decide) ?_
                refine vv_lv [1, 0] rfl ?_
                have hz := hJ2
                try simp only [f_X9_readPart_x1, if_pos c1, if_neg c23, if_neg c24, if_pos c25, if_pos c28, if_pos c29, if_pos c30] at hz
                first | exact hz | (simp only [f_X9_readPart_x1, if_pos c1, if_neg c23, if_neg c24, if_pos c25, if_pos c28, if_pos c29, if_pos c30]; exact hz)
          · have c28 : ¬ (x_readHouses = 0) := fun z => c28 ((nI_le_ (a := x_readHouses) (b := 0) (by omega) (by omega)).mpr (Nat.le_of_eq z))
            refine vv_aload_n hC 1 dX9_readPart_50 rfl rfl ?_
            refine vv_get (v := .int (nI x_readPeople)) hC fl_X9_115 dX9_readPart_51 h_m rfl ?_
            refine vv_bipush (v := (6)) hC dX9_readPart_54 (by decide) ?_
            refine vv_icmp_lt hC 72 dX9_readPart_56 (by decide) (fun c31 => ?_) (fun c31 => ?_)
            · have c31 : x_readPeople < 6 := (nI_lt_ (a := x_readPeople) (b := 6) (by omega) (by omega)).mp c31
              refine vv_iconst (v := 1) hC dX9_readPart_72 (by decide) ?_
              refine vv_goto hC 77 dX9_readPart_73 (by decide) ?_
              refine vv_lv [1, 0] rfl ?_
              have hz := hJ2
              try simp only [f_X9_readPart_x1, if_pos c1, if_neg c23, if_neg c24, if_pos c25, if_neg c28, if_pos c31] at hz
              first | exact hz | (simp only [f_X9_readPart_x1, if_pos c1, if_neg c23, if_neg c24, if_pos c25, if_neg c28, if_pos c31]; exact hz)
            · have c31 : ¬ (x_readPeople < 6) := fun z => c31 ((nI_lt_ (a := x_readPeople) (b := 6) (by omega) (by omega)).mpr z)
              refine vv_iload_n hC 0 dX9_readPart_59 rfl rfl ?_
              refine vv_bipush (v := (75)) hC dX9_readPart_60 (by decide) ?_
              refine vv_icmp_ne hC 76 dX9_readPart_62 (by decide) (fun c32 => ?_) (fun c32 => ?_)
              · have c32 : ¬ (text x_at = 75) := c32
                refine vv_iconst (v := 0) hC dX9_readPart_76 (by decide) ?_
                refine vv_lv [1, 0] rfl ?_
                have hz := hJ2
                try simp only [f_X9_readPart_x1, if_pos c1, if_neg c23, if_neg c24, if_pos c25, if_neg c28, if_neg c31, if_neg c32] at hz
                first | exact hz | (simp only [f_X9_readPart_x1, if_pos c1, if_neg c23, if_neg c24, if_pos c25, if_neg c28, if_neg c31, if_neg c32]; exact hz)
              · have c32 : text x_at = 75 := c32
                refine vv_aload_n hC 1 dX9_readPart_65 rfl rfl ?_
                refine vv_callV hC dX9_readPart_66 md_X9_hasAnyOther lk_m_X9_135 lk_i_X9_hasAnyOther lk_s_X9_hasAnyOther h_m rfl (As := []) (rest := []) (c_X9_hasAnyOther g w0 B hB x_thrown x_houses x_people x_paths x_acts x_size x_at x_readHouses x_readPeople x_readPaths x_sights x_drawn readKin (by omega) h_m h_readKin) rfl rfl (Nat.le_of_ble_eq_true rfl) ⟨by decide, by decide, by decide, by decide⟩ (fun r w9 hq => ?_)
                obtain ⟨rfl, rfl⟩ := hq
                show V g X 3 w0 0 0 69 [(1, .int (text x_at)), (0, .ref (B 0))] [.int (bI (f_X9_hasAnyOther x_readPeople readKin))]
                refine vv_if_eq hC 76 dX9_readPart_69 (by decide) (fun c33 => ?_) (fun c33 => ?_)
                · have c33 : ¬ (f_X9_hasAnyOther x_readPeople readKin = true) := bI_f c33
                  refine vv_iconst (v := 0) hC dX9_readPart_76 (by decide) ?_
                  refine vv_lv [1, 0] rfl ?_
                  have hz := hJ2
                  try simp only [f_X9_readPart_x1, if_pos c1, if_neg c23, if_neg c24, if_pos c25, if_neg c28, if_neg c31, if_pos c32, if_neg c33] at hz
                  first | exact hz | (simp only [f_X9_readPart_x1, if_pos c1, if_neg c23, if_neg c24, if_pos c25, if_neg c28, if_neg c31, if_pos c32, if_neg c33]; exact hz)
                · have c33 : f_X9_hasAnyOther x_readPeople readKin = true := bI_t c33
                  refine vv_iconst (v := 1) hC dX9_readPart_72 (by decide) ?_
                  refine vv_goto hC 77 dX9_readPart_73 (by decide) ?_
                  refine vv_lv [1, 0] rfl ?_
                  have hz := hJ2
                  try simp only [f_X9_readPart_x1, if_pos c1, if_neg c23, if_neg c24, if_pos c25, if_neg c28, if_neg c31, if_pos c32, if_pos c33] at hz
                  first | exact hz | (simp only [f_X9_readPart_x1, if_pos c1, if_neg c23, if_neg c24, if_pos c25, if_neg c28, if_neg c31, if_pos c32, if_pos c33]; exact hz)
      · have c24 : text x_at = 82 := c24
        refine vv_aload_n hC 1 dX9_readPart_30 rfl rfl ?_
        refine vv_callV hC dX9_readPart_31 md_X9_hasAnyWay lk_m_X9_131 lk_i_X9_hasAnyWay lk_s_X9_hasAnyWay h_m rfl (As := []) (rest := []) (c_X9_hasAnyWay g w0 B hB x_thrown x_houses x_people x_paths x_acts x_size x_at x_readHouses x_readPeople x_readPaths x_sights x_drawn readPath (by omega) h_m h_readPath) rfl rfl (Nat.le_of_ble_eq_true rfl) ⟨by decide, by decide, by decide, by decide⟩ (fun r w9 hq => ?_)
        obtain ⟨rfl, rfl⟩ := hq
        show V g X 3 w0 0 0 34 [(1, .int (text x_at)), (0, .ref (B 0))] [.int (bI (f_X9_hasAnyWay x_readHouses readPath))]
        refine vv_if_ne hC 72 dX9_readPart_34 (by decide) (fun c34 => ?_) (fun c34 => ?_)
        · have c34 : f_X9_hasAnyWay x_readHouses readPath = true := bI_t c34
          refine vv_iconst (v := 1) hC dX9_readPart_72 (by decide) ?_
          refine vv_goto hC 77 dX9_readPart_73 (by decide) ?_
          refine vv_lv [1, 0] rfl ?_
          have hz := hJ2
          try simp only [f_X9_readPart_x1, if_pos c1, if_neg c23, if_pos c24, if_pos c34] at hz
          first | exact hz | (simp only [f_X9_readPart_x1, if_pos c1, if_neg c23, if_pos c24, if_pos c34]; exact hz)
        · have c34 : ¬ (f_X9_hasAnyWay x_readHouses readPath = true) := bI_f c34
          refine vv_iload_n hC 0 dX9_readPart_37 rfl rfl ?_
          refine vv_bipush (v := (80)) hC dX9_readPart_38 (by decide) ?_
          refine vv_icmp_ne hC 59 dX9_readPart_40 (by decide) (fun c35 => ?_) (fun c35 => ?_)
          · have c35 : ¬ (text x_at = 80) := c35
            refine vv_iload_n hC 0 dX9_readPart_59 rfl rfl ?_
            refine vv_bipush (v := (75)) hC dX9_readPart_60 (by decide) ?_
            refine vv_icmp_ne hC 76 dX9_readPart_62 (by decide) (fun c36 => ?_) (fun c36 => ?_)
            · have c36 : ¬ (text x_at = 75) := c36
              refine vv_iconst (v := 0) hC dX9_readPart_76 (by decide) ?_
              refine vv_lv [1, 0] rfl ?_
              have hz := hJ2
              try simp only [f_X9_readPart_x1, if_pos c1, if_neg c23, if_pos c24, if_neg c34, if_neg c35, if_neg c36] at hz
              first | exact hz | (simp only [f_X9_readPart_x1, if_pos c1, if_neg c23, if_pos c24, if_neg c34, if_neg c35, if_neg c36]; exact hz)
            · have c36 : text x_at = 75 := c36
              refine vv_aload_n hC 1 dX9_readPart_65 rfl rfl ?_
              refine vv_callV hC dX9_readPart_66 md_X9_hasAnyOther lk_m_X9_135 lk_i_X9_hasAnyOther lk_s_X9_hasAnyOther h_m rfl (As := []) (rest := []) (c_X9_hasAnyOther g w0 B hB x_thrown x_houses x_people x_paths x_acts x_size x_at x_readHouses x_readPeople x_readPaths x_sights x_drawn readKin (by omega) h_m h_readKin) rfl rfl (Nat.le_of_ble_eq_true rfl) ⟨by decide, by decide, by decide, by decide⟩ (fun r w9 hq => ?_)
              obtain ⟨rfl, rfl⟩ := hq
              show V g X 3 w0 0 0 69 [(1, .int (text x_at)), (0, .ref (B 0))] [.int (bI (f_X9_hasAnyOther x_readPeople readKin))]
              refine vv_if_eq hC 76 dX9_readPart_69 (by decide) (fun c37 => ?_) (fun c37 => ?_)
              · have c37 : ¬ (f_X9_hasAnyOther x_readPeople readKin = true) := bI_f c37
                refine vv_iconst (v := 0) hC dX9_readPart_76 (by decide) ?_
                refine vv_lv [1, 0] rfl ?_
                have hz := hJ2
                try simp only [f_X9_readPart_x1, if_pos c1, if_neg c23, if_pos c24, if_neg c34, if_neg c35, if_pos c36, if_neg c37] at hz
                first | exact hz | (simp only [f_X9_readPart_x1, if_pos c1, if_neg c23, if_pos c24, if_neg c34, if_neg c35, if_pos c36, if_neg c37]; exact hz)
              · have c37 : f_X9_hasAnyOther x_readPeople readKin = true := bI_t c37
                refine vv_iconst (v := 1) hC dX9_readPart_72 (by decide) ?_
                refine vv_goto hC 77 dX9_readPart_73 (by decide) ?_
                refine vv_lv [1, 0] rfl ?_
                have hz := hJ2
                try simp only [f_X9_readPart_x1, if_pos c1, if_neg c23, if_pos c24, if_neg c34, if_neg c35, if_pos c36, if_pos c37] at hz
                first | exact hz | (simp only [f_X9_readPart_x1, if_pos c1, if_neg c23, if_pos c24, if_neg c34, if_neg c35, if_pos c36, if_pos c37]; exact hz)
          · have c35 : text x_at = 80 := c35
            refine vv_aload_n hC 1 dX9_readPart_43 rfl rfl ?_
            refine vv_get (v := .int (nI x_readHouses)) hC fl_X9_109 dX9_readPart_44 h_m rfl ?_
            refine vv_if_le hC 59 dX9_readPart_47 (by decide) (fun c38 => ?_) (fun c38 => ?_)
            · have c38 : x_readHouses = 0 := Nat.le_zero.mp ((nI_le_ (a := x_readHouses) (b := 0) (by omega) (by omega)).mp c38)
              refine vv_iload_n hC 0 dX9_readPart_59 rfl rfl ?_
              refine vv_bipush (v := (75)) hC dX9_readPart_60 (by decide) ?_
              refine vv_icmp_ne hC 76 dX9_readPart_62 (by decide) (fun c39 => ?_) (fun c39 => ?_)
              · have c39 : ¬ (text x_at = 75) := c39
                refine vv_iconst (v := 0) hC dX9_readPart_76 (by decide) ?_
                refine vv_lv [1, 0] rfl ?_
                have hz := hJ2
                try simp only [f_X9_readPart_x1, if_pos c1, if_neg c23, if_pos c24, if_neg c34, if_pos c35, if_pos c38, if_neg c39] at hz
                first | exact hz | (simp only [f_X9_readPart_x1, if_pos c1, if_neg c23, if_pos c24, if_neg c34, if_pos c35, if_pos c38, if_neg c39]; exact hz)
              · have c39 : text x_at = 75 := c39
                refine vv_aload_n hC 1 dX9_readPart_65 rfl rfl ?_
                refine vv_callV hC dX9_readPart_66 md_X9_hasAnyOther lk_m_X9_135 lk_i_X9_hasAnyOther lk_s_X9_hasAnyOther h_m rfl (As := []) (rest := []) (c_X9_hasAnyOther g w0 B hB x_thrown x_houses x_people x_paths x_acts x_size x_at x_readHouses x_readPeople x_readPaths x_sights x_drawn readKin (by omega) h_m h_readKin) rfl rfl (Nat.le_of_ble_eq_true rfl) ⟨by decide, by decide, by decide, by decide⟩ (fun r w9 hq => ?_)
                obtain ⟨rfl, rfl⟩ := hq
                show V g X 3 w0 0 0 69 [(1, .int (text x_at)), (0, .ref (B 0))] [.int (bI (f_X9_hasAnyOther x_readPeople readKin))]
                refine vv_if_eq hC 76 dX9_readPart_69 (by decide) (fun c40 => ?_) (fun c40 => ?_)
                · have c40 : ¬ (f_X9_hasAnyOther x_readPeople readKin = true) := bI_f c40
                  refine vv_iconst (v := 0) hC dX9_readPart_76 (by decide) ?_
                  refine vv_lv [1, 0] rfl ?_
                  have hz := hJ2
                  try simp only [f_X9_readPart_x1, if_pos c1, if_neg c23, if_pos c24, if_neg c34, if_pos c35, if_pos c38, if_pos c39, if_neg c40] at hz
                  first | exact hz | (simp only [f_X9_readPart_x1, if_pos c1, if_neg c23, if_pos c24, if_neg c34, if_pos c35, if_pos c38, if_pos c39, if_neg c40]; exact hz)
                · have c40 : f_X9_hasAnyOther x_readPeople readKin = true := bI_t c40
                  refine vv_iconst (v := 1) hC dX9_readPart_72 (by decide) ?_
                  refine vv_goto hC 77 dX9_readPart_73 (by decide) ?_
                  refine vv_lv [1, 0] rfl ?_
                  have hz := hJ2
                  try simp only [f_X9_readPart_x1, if_pos c1, if_neg c23, if_pos c24, if_neg c34, if_pos c35, if_pos c38, if_pos c39, if_pos c40] at hz
                  first | exact hz | (simp only [f_X9_readPart_x1, if_pos c1, if_neg c23, if_pos c24, if_neg c34, if_pos c35, if_pos c38, if_pos c39, if_pos c40]; exact hz)
            · have c38 : ¬ (x_readHouses = 0) := fun z => c38 ((nI_le_ (a := x_readHouses) (b := 0) (by omega) (by omega)).mpr (Nat.le_of_eq z))
              refine vv_aload_n hC 1 dX9_readPart_50 rfl rfl ?_
              refine vv_get (v := .int (nI x_readPeople)) hC fl_X9_115 dX9_readPart_51 h_m rfl ?_
              refine vv_bipush (v := (6)) hC dX9_readPart_54 (by decide) ?_
              refine vv_icmp_lt hC 72 dX9_readPart_56 (by decide) (fun c41 => ?_) (fun c41 => ?_)
              · have c41 : x_readPeople < 6 := (nI_lt_ (a := x_readPeople) (b := 6) (by omega) (by omega)).mp c41
                refine vv_iconst (v := 1) hC dX9_readPart_72 (by decide) ?_
                refine vv_goto hC 77 dX9_readPart_73 (by decide) ?_
                refine vv_lv [1, 0] rfl ?_
                have hz := hJ2
                try simp only [f_X9_readPart_x1, if_pos c1, if_neg c23, if_pos c24, if_neg c34, if_pos c35, if_neg c38, if_pos c41] at hz
                first | exact hz | (simp only [f_X9_readPart_x1, if_pos c1, if_neg c23, if_pos c24, if_neg c34, if_pos c35, if_neg c38, if_pos c41]; exact hz)
              · have c41 : ¬ (x_readPeople < 6) := fun z => c41 ((nI_lt_ (a := x_readPeople) (b := 6) (by omega) (by omega)).mpr z)
                refine vv_iload_n hC 0 dX9_readPart_59 rfl rfl ?_
                refine vv_bipush (v := (75)) hC dX9_readPart_60 (by decide) ?_
                refine vv_icmp_ne hC 76 dX9_readPart_62 (by decide) (fun c42 => ?_) (fun c42 => ?_)
                · have c42 : ¬ (text x_at = 75) := c42
                  refine vv_iconst (v := 0) hC dX9_readPart_76 (by decide) ?_
                  refine vv_lv [1, 0] rfl ?_
                  have hz := hJ2
                  try simp only [f_X9_readPart_x1, if_pos c1, if_neg c23, if_pos c24, if_neg c34, if_pos c35, if_neg c38, if_neg c41, if_neg c42] at hz
                  first | exact hz | (simp only [f_X9_readPart_x1, if_pos c1, if_neg c23, if_pos c24, if_neg c34, if_pos c35, if_neg c38, if_neg c41, if_neg c42]; exact hz)
                · have c42 : text x_at = 75 := c42
                  refine vv_aload_n hC 1 dX9_readPart_65 rfl rfl ?_
                  refine vv_callV hC dX9_readPart_66 md_X9_hasAnyOther lk_m_X9_135 lk_i_X9_hasAnyOther lk_s_X9_hasAnyOther h_m rfl (As := []) (rest := []) (c_X9_hasAnyOther g w0 B hB x_thrown x_houses x_people x_paths x_acts x_size x_at x_readHouses x_readPeople x_readPaths x_sights x_drawn readKin (by omega) h_m h_readKin) rfl rfl (Nat.le_of_ble_eq_true rfl) ⟨by decide, by decide, by decide, by decide⟩ (fun r w9 hq => ?_)
                  obtain ⟨rfl, rfl⟩ := hq
                  show V g X 3 w0 0 0 69 [(1, .int (text x_at)), (0, .ref (B 0))] [.int (bI (f_X9_hasAnyOther x_readPeople readKin))]
                  refine vv_if_eq hC 76 dX9_readPart_69 (by decide) (fun c43 => ?_) (fun c43 => ?_)
                  · have c43 : ¬ (f_X9_hasAnyOther x_readPeople readKin = true) := bI_f c43
                    refine vv_iconst (v := 0) hC dX9_readPart_76 (by decide) ?_
                    refine vv_lv [1, 0] rfl ?_
                    have hz := hJ2
                    try simp only [f_X9_readPart_x1, if_pos c1, if_neg c23, if_pos c24, if_neg c34, if_pos c35, if_neg c38, if_neg c41, if_pos c42, if_neg c43] at hz
                    first | exact hz | (simp only [f_X9_readPart_x1, if_pos c1, if_neg c23, if_pos c24, if_neg c34, if_pos c35, if_neg c38, if_neg c41, if_pos c42, if_neg c43]; exact hz)
                  · have c43 : f_X9_hasAnyOther x_readPeople readKin = true := bI_t c43
                    refine vv_iconst (v := 1) hC dX9_readPart_72 (by decide) ?_
                    refine vv_goto hC 77 dX9_readPart_73 (by decide) ?_
                    refine vv_lv [1, 0] rfl ?_
                    have hz := hJ2
                    try simp only [f_X9_readPart_x1, if_pos c1, if_neg c23, if_pos c24, if_neg c34, if_pos c35, if_neg c38, if_neg c41, if_pos c42, if_pos c43] at hz
                    first | exact hz | (simp only [f_X9_readPart_x1, if_pos c1, if_neg c23, if_pos c24, if_neg c34, if_pos c35, if_neg c38, if_neg c41, if_pos c42, if_pos c43]; exact hz)
