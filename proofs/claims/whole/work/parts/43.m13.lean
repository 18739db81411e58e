def f_X9_secondOf_L22 (x_houses : Nat) (x_people : Nat) (now : Nat → Int32) (between : Nat → Int32) (home : Nat → Int32) (path : Nat → Int32) (kin : Nat → Int32) (p1 : Nat) : Nat → Nat → Int64 → (Nat → Int32) → Int64 × (Nat → Int32)
  | 0, k22, l2_22, y_now_22 => (l2_22, y_now_22)
  | r22 + 1, k22, l2_22, y_now_22 => f_X9_secondOf_L22 x_houses x_people now between home path kin p1 r22 (k22 + 1) (l2_22 + ((f_X9_of ((f_X9_goesBy x_houses x_people (f_X9_copies (f_X9_copies now between) y_now_22) home path kin k22).2) p1 0).toInt64 * (f_X9_goesBy x_houses x_people (f_X9_copies (f_X9_copies now between) y_now_22) home path kin k22).1)) ((f_X9_goesBy x_houses x_people (f_X9_copies (f_X9_copies now between) y_now_22) home path kin k22).2)
def f_X9_secondOf (x_houses : Nat) (x_people : Nat) (now : Nat → Int32) (between : Nat → Int32) (home : Nat → Int32) (path : Nat → Int32) (kin : Nat → Int32) (p1 : Nat) : Int64 × (Nat → Int32) × (Nat → Int32) := ((f_X9_secondOf_L22 x_houses x_people now between home path kin p1 (tn (f_X9_waysNow x_houses x_people now home path)) 0 0 now).1, (f_X9_secondOf_L22 x_houses x_people now between home path kin p1 (tn (f_X9_waysNow x_houses x_people now home path)) 0 0 now).2, (f_X9_copies now between))
set_option maxHeartbeats 4000000 in
set_option maxRecDepth 100000 in
theorem c_X9_secondOf (g : GT) (w0 : Wd) (B : Nat → Nat) (hB : ∀ i j, i < 60 → j < 60 → B i = B j → i = j) (x_thrown : Int32) (x_houses : Nat) (x_people : Nat) (x_paths : Nat) (x_acts : Nat) (x_size : Nat) (x_at : Nat) (x_readHouses : Nat) (x_readPeople : Nat) (x_readPaths : Nat) (x_sights : Nat) (x_drawn : Int64) (now : Nat → Int32) (between : Nat → Int32) (home : Nat → Int32) (path : Nat → Int32) (kin : Nat → Int32) (p1 : Nat) (hxp : x_people ≤ 6) (hxh : x_houses ≤ 4) (hom : ∀ q, q < 6 → home q = nI (tn (home q)) ∧ tn (home q) < 4) (hp : p1 < 6) (h_m : w0 (B 0) = some (.inr (9, cM B (x_thrown, x_houses, x_people, x_paths, x_acts, x_size, x_at, x_readHouses, x_readPeople, x_readPaths, x_sights, x_drawn)))) (h_now : w0 (B 7) = some (.inl (g.2.2.1 0, 43, .inl now))) (h_between : w0 (B 29) = some (.inl (g.2.2.1 0, 43, .inl between))) (h_home : w0 (B 5) = some (.inl (g.2.2.1 0, 6, .inl home))) (h_path : w0 (B 4) = some (.inl (g.2.2.1 0, 16, .inl path))) (h_kin : w0 (B 6) = some (.inl (g.2.2.1 0, 6, .inl kin))) : CT g yX9_secondOf cX9_secondOf 8 (some .long) 5 117 0 0 w0 [.ref (B 0), .int (nI p1)] (fun r w2 => r = some (.long ((f_X9_secondOf x_houses x_people now between home path kin p1).1)) ∧ w2 (B 7) = some (.inl (g.2.2.1 0, 43, .inl ((f_X9_secondOf x_houses x_people now between home path kin p1).2.1))) ∧ w2 (B 29) = some (.inl (g.2.2.1 0, 43, .inl ((f_X9_secondOf x_houses x_people now between home path kin p1).2.2))) ∧ wE (fun q => q = (B 7) ∨ q = (B 29)) w0 w2) := by
  refine CT.of (own := RX9) (by decide +kernel) rfl (Nat.le_of_ble_eq_true rfl) (fun X hC hR hI => ?_)
  show V g X 8 w0 0 0 0 [(0, .ref (B 0)), (1, .int (nI p1))] []
  have hE : wE (fun q => q = (B 7) ∨ q = (B 29)) w0 w0 := wE.refl
  refine vv_aload_n hC 0 dX9_secondOf_0 rfl rfl ?_
  refine vv_get (v := .ref (B 7)) hC fl_X9_19 dX9_secondOf_1 h_m rfl ?_
  refine vv_aload_n hC 0 dX9_secondOf_4 rfl rfl ?_
  refine vv_get (v := .ref (B 29)) hC fl_X9_66 dX9_secondOf_5 h_m rfl ?_
  refine vv_callS hC dX9_secondOf_8 md_X9_copies lk_m_X9_259 lk_t_X9_copies (As := [.ref (B 7), .ref (B 29)]) (rest := []) (c_X9_copies g w0 (B 7) (B 29) now between h_now h_between (fw_inj hB (by decide) (by decide) (by decide))) rfl rfl (Nat.le_of_ble_eq_true rfl) ⟨by decide, by decide, by decide, by decide⟩ (fun r w9 hq => ?_)
  obtain ⟨rfl, t1, hs⟩ := hq
  obtain ⟨w1, rfl⟩ : ∃ z, z = w9 := ⟨_, rfl⟩
  have h_m := hs _ _ (fw_oa h_m h_between) h_m
  have h_now := hs _ _ (fw_inj hB (by decide) (by decide) (by decide)) h_now
  have h_home := hs _ _ (fw_inj hB (by decide) (by decide) (by decide)) h_home
  have h_path := hs _ _ (fw_inj hB (by decide) (by decide) (by decide)) h_path
  have h_kin := hs _ _ (fw_inj hB (by decide) (by decide) (by decide)) h_kin
  have h_between := t1
  have hE := hE.trans (hs.mono (fun _ z => (Or.inr z)))
  show V g X 8 w1 0 0 11 [(0, .ref (B 0)), (1, .int (nI p1))] []
  refine vv_lconst (v := 0) hC dX9_secondOf_11 (by decide) ?_
  refine vv_lstore_n (lv2 := [(2, .long 0), (0, .ref (B 0)), (1, .int (nI p1))]) hC dX9_secondOf_12 rfl (by decide) rfl ?_
  refine vv_aload_n hC 1 dX9_secondOf_13 rfl rfl ?_
  refine vv_callV hC dX9_secondOf_14 md_X9_waysNow lk_m_X9_263 lk_i_X9_waysNow lk_s_X9_waysNow h_m rfl (As := []) (rest := []) (c_X9_waysNow g w1 B hB x_thrown x_houses x_people x_paths x_acts x_size x_at x_readHouses x_readPeople x_readPaths x_sights x_drawn now home path (by omega) (by omega) (hom) h_m h_now h_home h_path) rfl rfl (Nat.le_of_ble_eq_true rfl) ⟨by decide, by decide, by decide, by decide⟩ (fun r w9 hq => ?_)
  obtain ⟨rfl, rfl⟩ := hq
  show V g X 8 w1 0 0 17 [(2, .long 0), (0, .ref (B 0)), (1, .int (nI p1))] [.int (f_X9_waysNow x_houses x_people now home path)]
  have b2 := (show tn (f_X9_waysNow x_houses x_people now home path) ≤ 4096 from ways_b hxh hxp)
  refine vv_topi (nI (tn (f_X9_waysNow x_houses x_people now home path))) (ways_e hxh hxp) ?_
  refine vv_istore (lv2 := [(4, .int (nI (tn (f_X9_waysNow x_houses x_people now home path)))), (2, .long 0), (0, .ref (B 0)), (1, .int (nI p1))]) hC dX9_secondOf_17 (by decide) rfl ?_
  refine vv_iconst (v := 0) hC dX9_secondOf_19 (by decide) ?_
  refine vv_istore (lv2 := [(5, .int 0), (4, .int (nI (tn (f_X9_waysNow x_houses x_people now home path)))), (2, .long 0), (0, .ref (B 0)), (1, .int (nI p1))]) hC dX9_secondOf_20 (by decide) rfl ?_
  have hL7 : ∀ (r22 k22 : Nat) (l2_22 : Int64) (y_now_22 : Nat → Int32) (w3 : Wd) (out : Int64 × (Nat → Int32)), k22 + r22 = tn (f_X9_waysNow x_houses x_people now home path) → out = f_X9_secondOf_L22 x_houses x_people now between home path kin p1 r22 k22 l2_22 y_now_22 → w3 (B 0) = some (.inr (9, cM B (x_thrown, x_houses, x_people, x_paths, x_acts, x_size, x_at, x_readHouses, x_readPeople, x_readPaths, x_sights, x_drawn))) → w3 (B 7) = some (.inl (g.2.2.1 0, 43, .inl y_now_22)) → w3 (B 29) = some (.inl (g.2.2.1 0, 43, .inl (f_X9_copies now between))) → w3 (B 5) = some (.inl (g.2.2.1 0, 6, .inl home)) → w3 (B 4) = some (.inl (g.2.2.1 0, 16, .inl path)) → w3 (B 6) = some (.inl (g.2.2.1 0, 6, .inl kin)) → wE (fun q => q = (B 7) ∨ q = (B 29)) w0 w3 → (∀ w6 : Wd, w6 (B 0) = some (.inr (9, cM B (x_thrown, x_houses, x_people, x_paths, x_acts, x_size, x_at, x_readHouses, x_readPeople, x_readPaths, x_sights, x_drawn))) → w6 (B 7) = some (.inl (g.2.2.1 0, 43, .inl out.2)) → w6 (B 29) = some (.inl (g.2.2.1 0, 43, .inl (f_X9_copies now between))) → w6 (B 5) = some (.inl (g.2.2.1 0, 6, .inl home)) → w6 (B 4) = some (.inl (g.2.2.1 0, 16, .inl path)) → w6 (B 6) = some (.inl (g.2.2.1 0, 6, .inl kin)) → wE (fun q => q = (B 7) ∨ q = (B 29)) w0 w6 → V g X 8 w6 0 0 67 [(0, .ref (B 0)), (1, .int (nI p1)), (2, .long out.1), (4, .int (nI (tn (f_X9_waysNow x_houses x_people now home path))))] []) → V g X 8 w3 0 0 22 [(0, .ref (B 0)), (1, .int (nI p1)), (2, .long l2_22), (4, .int (nI (tn (f_X9_waysNow x_houses x_people now home path)))), (5, .int (nI k22))] [] := by
    intro r22
    induction r22 with
    | zero =>
      intro k22 l2_22 y_now_22 w3 out hb ho h_m h_now h_between h_home h_path h_kin hE hk
      refine vv_iload hC 4 dX9_secondOf_22 rfl ?_
      refine vv_iload hC 3 dX9_secondOf_24 rfl ?_
      refine vv_icmp_ge hC 67 dX9_secondOf_26 (by decide) (fun c => ?_) (fun c => False.elim (c ((nI_le_ (a := tn (f_X9_waysNow x_houses x_people now home path)) (b := k22) (by omega) (by omega)).mpr (by omega))))
      refine vv_lv [0, 1, 2, 3] rfl ?_
      have ho := ho.trans (by first | (simp only [f_X9_secondOf_L22]; done) | rfl | (simp only [f_X9_secondOf_L22]; rfl) : _ = (l2_22, y_now_22))
      subst ho
      exact hk w3 h_m h_now h_between h_home h_path h_kin hE
    | succ r22 ih =>
      intro k22 l2_22 y_now_22 w3 out hb ho h_m h_now h_between h_home h_path h_kin hE hk
      refine vv_iload hC 4 dX9_secondOf_22 rfl ?_
      refine vv_iload hC 3 dX9_secondOf_24 rfl ?_
      refine vv_icmp_ge hC 67 dX9_secondOf_26 (by decide) (fun c => absurd ((nI_le_ (a := tn (f_X9_waysNow x_houses x_people now home path)) (b := k22) (by omega) (by omega)).mp c) (by first | omega | decide)) (fun c => ?_)
      refine vv_aload_n hC 0 dX9_secondOf_29 rfl rfl ?_
      refine vv_get (v := .ref (B 29)) hC fl_X9_66 dX9_secondOf_30 h_m rfl ?_
      refine vv_aload_n hC 0 dX9_secondOf_33 rfl rfl ?_
      refine vv_get (v := .ref (B 7)) hC fl_X9_19 dX9_secondOf_34 h_m rfl ?_
      refine vv_callS hC dX9_secondOf_37 md_X9_copies lk_m_X9_259 lk_t_X9_copies (As := [.ref (B 29), .ref (B 7)]) (rest := []) (c_X9_copies g w3 (B 29) (B 7) (f_X9_copies now between) y_now_22 h_between h_now (fw_inj hB (by decide) (by decide) (by decide))) rfl rfl (Nat.le_of_ble_eq_true rfl) ⟨by decide, by decide, by decide, by decide⟩ (fun r w9 hq => ?_)
      obtain ⟨rfl, t1, hs⟩ := hq
      obtain ⟨w4, rfl⟩ : ∃ z, z = w9 := ⟨_, rfl⟩
      have h_m := hs _ _ (fw_oa h_m h_now) h_m
      have h_between := hs _ _ (fw_inj hB (by decide) (by decide) (by decide)) h_between
      have h_home := hs _ _ (fw_inj hB (by decide) (by decide) (by decide)) h_home
      have h_path := hs _ _ (fw_inj hB (by decide) (by decide) (by decide)) h_path
      have h_kin := hs _ _ (fw_inj hB (by decide) (by decide) (by decide)) h_kin
      have h_now := t1
      have hE := hE.trans (hs.mono (fun _ z => (Or.inl z)))
      show V g X 8 w4 0 0 40 [(0, .ref (B 0)), (1, .int (nI p1)), (2, .long l2_22), (4, .int (nI (tn (f_X9_waysNow x_houses x_people now home path)))), (5, .int (nI k22))] []
      refine vv_aload_n hC 0 dX9_secondOf_40 rfl rfl ?_
      refine vv_iload hC 4 dX9_secondOf_41 rfl ?_
      refine vv_callV hC dX9_secondOf_43 md_X9_goesBy lk_m_X9_266 lk_i_X9_goesBy lk_s_X9_goesBy h_m rfl (As := [.int (nI k22)]) (rest := []) (c_X9_goesBy g w4 B hB x_thrown x_houses x_people x_paths x_acts x_size x_at x_readHouses x_readPeople x_readPaths x_sights x_drawn (f_X9_copies (f_X9_copies now between) y_now_22) home path kin k22 (by omega) (by omega) (hom) (by omega) h_m h_now h_home h_path h_kin) rfl rfl (Nat.le_of_ble_eq_true rfl) ⟨by decide, by decide, by decide, by decide⟩ (fun r w9 hq => ?_)
      obtain ⟨rfl, t1, hs⟩ := hq
      obtain ⟨w5, rfl⟩ : ∃ z, z = w9 := ⟨_, rfl⟩
      have h_m := hs _ _ (fw_oa h_m h_now) h_m
      have h_between := hs _ _ (fw_inj hB (by decide) (by decide) (by decide)) h_between
      have h_home := hs _ _ (fw_inj hB (by decide) (by decide) (by decide)) h_home
      have h_path := hs _ _ (fw_inj hB (by decide) (by decide) (by decide)) h_path
      have h_kin := hs _ _ (fw_inj hB (by decide) (by decide) (by decide)) h_kin
      have h_now := t1
      have hE := hE.trans (hs.mono (fun _ z => (Or.inl z)))
      show V g X 8 w5 0 0 46 [(0, .ref (B 0)), (1, .int (nI p1)), (2, .long l2_22), (4, .int (nI (tn (f_X9_waysNow x_houses x_people now home path)))), (5, .int (nI k22))] [.long ((f_X9_goesBy x_houses x_people (f_X9_copies (f_X9_copies now between) y_now_22) home path kin k22).1)]
      refine vv_lstore (lv2 := [(6, .long ((f_X9_goesBy x_houses x_people (f_X9_copies (f_X9_copies now between) y_now_22) home path kin k22).1)), (0, .ref (B 0)), (1, .int (nI p1)), (2, .long l2_22), (4, .int (nI (tn (f_X9_waysNow x_houses x_people now home path)))), (5, .int (nI k22))]) hC dX9_secondOf_46 (by decide) rfl ?_
      refine vv_lload_n hC 3 dX9_secondOf_48 rfl rfl ?_
      refine vv_aload_n hC 1 dX9_secondOf_49 rfl rfl ?_
      refine vv_iload_n hC 2 dX9_secondOf_50 rfl rfl ?_
      refine vv_iconst (v := 0) hC dX9_secondOf_51 (by decide) ?_
      refine vv_callV hC dX9_secondOf_52 md_X9_of lk_m_X9_83 lk_i_X9_of lk_s_X9_of h_m rfl (As := [.int (nI p1), .int 0]) (rest := [.long l2_22]) (c_X9_of g w5 B hB x_thrown x_houses x_people x_paths x_acts x_size x_at x_readHouses x_readPeople x_readPaths x_sights x_drawn ((f_X9_goesBy x_houses x_people (f_X9_copies (f_X9_copies now between) y_now_22) home path kin k22).2) p1 0 (by omega) (by omega) h_m h_now) rfl rfl (Nat.le_of_ble_eq_true rfl) ⟨by decide, by decide, by decide, by decide⟩ (fun r w9 hq => ?_)
      obtain ⟨rfl, rfl⟩ := hq
      show V g X 8 w5 0 0 55 [(6, .long ((f_X9_goesBy x_houses x_people (f_X9_copies (f_X9_copies now between) y_now_22) home path kin k22).1)), (0, .ref (B 0)), (1, .int (nI p1)), (2, .long l2_22), (4, .int (nI (tn (f_X9_waysNow x_houses x_people now home path)))), (5, .int (nI k22))] [.int (f_X9_of ((f_X9_goesBy x_houses x_people (f_X9_copies (f_X9_copies now between) y_now_22) home path kin k22).2) p1 0), .long l2_22]
      refine vv_i2l hC dX9_secondOf_55 ?_
      refine vv_lload hC 0 dX9_secondOf_56 rfl ?_
      refine vv_lmul hC dX9_secondOf_58 ?_
      refine vv_ladd hC dX9_secondOf_59 ?_
      refine vv_lstore_n (lv2 := [(2, .long (l2_22 + ((f_X9_of ((f_X9_goesBy x_houses x_people (f_X9_copies (f_X9_copies now between) y_now_22) home path kin k22).2) p1 0).toInt64 * (f_X9_goesBy x_houses x_people (f_X9_copies (f_X9_copies now between) y_now_22) home path kin k22).1))), (6, .long ((f_X9_goesBy x_houses x_people (f_X9_copies (f_X9_copies now between) y_now_22) home path kin k22).1)), (0, .ref (B 0)), (1, .int (nI p1)), (4, .int (nI (tn (f_X9_waysNow x_houses x_people now home path)))), (5, .int (nI k22))]) hC dX9_secondOf_60 rfl (by decide) rfl ?_
      refine vv_iinc (lv2 := [(5, .int (nI (k22 + 1))), (2, .long (l2_22 + ((f_X9_of ((f_X9_goesBy x_houses x_people (f_X9_copies (f_X9_copies now between) y_now_22) home path kin k22).2) p1 0).toInt64 * (f_X9_goesBy x_houses x_people (f_X9_copies (f_X9_copies now between) y_now_22) home path kin k22).1))), (6, .long ((f_X9_goesBy x_houses x_people (f_X9_copies (f_X9_copies now between) y_now_22) home path kin k22).1)), (0, .ref (B 0)), (1, .int (nI p1)), (4, .int (nI (tn (f_X9_waysNow x_houses x_people now home path))))]) hC 5 dX9_secondOf_61 rfl (nI_add k22 1) (by decide) rfl ?_
      refine vv_goto hC 22 dX9_secondOf_64 (by decide) ?_
      refine vv_lv [3, 4, 1, 5, 0] rfl ?_
      exact ih (k22 + 1) (l2_22 + ((f_X9_of ((f_X9_goesBy x_houses x_people (f_X9_copies (f_X9_copies now between) y_now_22) home path kin k22).2) p1 0).toInt64 * (f_X9_goesBy x_houses x_people (f_X9_copies (f_X9_copies now between) y_now_22) home path kin k22).1)) ((f_X9_goesBy x_houses x_people (f_X9_copies (f_X9_copies now between) y_now_22) home path kin k22).2) w5 out (by omega) (ho.trans (by first | (simp only [f_X9_secondOf_L22]; done) | rfl | (simp only [f_X9_secondOf_L22]; rfl))) h_m h_now h_between h_home h_path h_kin hE hk
  refine vv_lv [3, 4, 2, 1, 0] rfl ?_
  refine hL7 (tn (f_X9_waysNow x_houses x_people now home path)) 0 0 now w1 (f_X9_secondOf_L22 x_houses x_people now between home path kin p1 (tn (f_X9_waysNow x_houses x_people now home path)) 0 0 now) (by omega) rfl h_m h_now h_between h_home h_path h_kin hE ?_
  intro w6 h_m h_now h_between h_home h_path h_kin hE
  refine vv_lload_n hC 2 dX9_secondOf_67 rfl rfl ?_
  have hf : (f_X9_secondOf x_houses x_people now between home path kin p1) = ((f_X9_secondOf_L22 x_houses x_people now between home path kin p1 (tn (f_X9_waysNow x_houses x_people now home path)) 0 0 now).1, (f_X9_secondOf_L22 x_houses x_people now between home path kin p1 (tn (f_X9_waysNow x_houses x_people now home path)) 0 0 now).2, (f_X9_copies now between)) := by first | (simp only [f_X9_secondOf]; done) | rfl | (simp only [f_X9_secondOf]; rfl)
  refine vv_lret hC hR rfl dX9_secondOf_68 (by omega) (by omega) ?_
  rw [hf]
  try dsimp only
  exact ⟨rfl, h_now, h_between, hE⟩
def f_X9_danger_L39 : Nat → Nat → Int64 → Int64
  | 0, k39, l4_39 => l4_39
  | r39 + 1, k39, l4_39 => f_X9_danger_L39 r39 (k39 + 1) (l4_39 * 6)
def f_X9_danger_x1 (x_houses : Nat) (x_people : Nat) (now : Nat → Int32) (begun : Nat → Int32) (home : Nat → Int32) (path : Nat → Int32) (kin : Nat → Int32) (p1 : Int32) (p2 : Int32) (k85 : Nat) (l6_85 : Int64) (y_now_85 : Nat → Int32) (y_between_85 : Nat → Int32) : Int64 := (if f_X9_of ((f_X9_goesBy x_houses x_people (f_X9_copies (f_X9_copies now begun) y_now_85) home path kin k85).2) (tn p1) 0 = 1 then (l6_85 + (((f_X9_of ((f_X9_goesBy x_houses x_people (f_X9_copies (f_X9_copies now begun) y_now_85) home path kin k85).2) (tn p1) 0).toInt64 * (f_X9_goesBy x_houses x_people (f_X9_copies (f_X9_copies now begun) y_now_85) home path kin k85).1) * (if tn p2 = 1 then (1 : Int64) else (f_X9_danger_L39 x_people 0 1)))) else (if tn p2 = 1 then (l6_85 + (((f_X9_of ((f_X9_goesBy x_houses x_people (f_X9_copies (f_X9_copies now begun) y_now_85) home path kin k85).2) (tn p1) 0).toInt64 * (f_X9_goesBy x_houses x_people (f_X9_copies (f_X9_copies now begun) y_now_85) home path kin k85).1) * 1)) else (l6_85 + ((f_X9_goesBy x_houses x_people (f_X9_copies (f_X9_copies now begun) y_now_85) home path kin k85).1 * (f_X9_secondOf x_houses x_people ((f_X9_goesBy x_houses x_people (f_X9_copies (f_X9_copies now begun) y_now_85) home path kin k85).2) y_between_85 home path kin (tn p1)).1))))
def f_X9_danger_x2 (x_houses : Nat) (x_people : Nat) (now : Nat → Int32) (begun : Nat → Int32) (home : Nat → Int32) (path : Nat → Int32) (kin : Nat → Int32) (p1 : Int32) (p2 : Int32) (k85 : Nat) (y_now_85 : Nat → Int32) (y_between_85 : Nat → Int32) : Nat → Int32 := (if f_X9_of ((f_X9_goesBy x_houses x_people (f_X9_copies (f_X9_copies now begun) y_now_85) home path kin k85).2) (tn p1) 0 = 1 then (f_X9_goesBy x_houses x_people (f_X9_copies (f_X9_copies now begun) y_now_85) home path kin k85).2 else (if tn p2 = 1 then (f_X9_goesBy x_houses x_people (f_X9_copies (f_X9_copies now begun) y_now_85) home path kin k85).2 else (f_X9_secondOf x_houses x_people ((f_X9_goesBy x_houses x_people (f_X9_copies (f_X9_copies now begun) y_now_85) home path kin k85).2) y_between_85 home path kin (tn p1)).2.1))
def f_X9_danger_x3 (x_houses : Nat) (x_people : Nat) (now : Nat → Int32) (begun : Nat → Int32) (home : Nat → Int32) (path : Nat → Int32) (kin : Nat → Int32) (p1 : Int32) (p2 : Int32) (k85 : Nat) (y_now_85 : Nat → Int32) (y_between_85 : Nat → Int32) : Nat → Int32 := (if f_X9_of ((f_X9_goesBy x_houses x_people (f_X9_copies (f_X9_copies now begun) y_now_85) home path kin k85).2) (tn p1) 0 = 1 then y_between_85 else (if tn p2 = 1 then y_between_85 else (f_X9_secondOf x_houses x_people ((f_X9_goesBy x_houses x_people (f_X9_copies (f_X9_copies now begun) y_now_85) home path kin k85).2) y_between_85 home path kin (tn p1)).2.2))
def f_X9_danger_L85 (x_houses : Nat) (x_people : Nat) (now : Nat → Int32) (begun : Nat → Int32) (home : Nat → Int32) (path : Nat → Int32) (kin : Nat → Int32) (p1 : Int32) (p2 : Int32) : Nat → Nat → Int64 → (Nat → Int32) → (Nat → Int32) → Int64 × (Nat → Int32) × (Nat → Int32)
  | 0, k85, l6_85, y_now_85, y_between_85 => (l6_85, y_now_85, y_between_85)
  | r85 + 1, k85, l6_85, y_now_85, y_between_85 => f_X9_danger_L85 x_houses x_people now begun home path kin p1 p2 r85 (k85 + 1) (f_X9_danger_x1 x_houses x_people now begun home path kin p1 p2 k85 l6_85 y_now_85 y_between_85) (f_X9_danger_x2 x_houses x_people now begun home path kin p1 p2 k85 y_now_85 y_between_85) (f_X9_danger_x3 x_houses x_people now begun home path kin p1 p2 k85 y_now_85 y_between_85)
def f_X9_danger (x_houses : Nat) (x_people : Nat) (now : Nat → Int32) (begun : Nat → Int32) (home : Nat → Int32) (path : Nat → Int32) (kin : Nat → Int32) (between : Nat → Int32) (p1 : Int32) (p2 : Int32) (p3 : Bool) : Int64 × Int32 × (Nat → Int32) × (Nat → Int32) × (Nat → Int32) := (if f_X9_noOne x_people p1 = true then ((-1), 0, now, begun, between) else (if f_X9_in p2.toInt64 1 2 = true then (f_X9_part ((f_X9_danger_L85 x_houses x_people now begun home path kin p1 p2 (tn (f_X9_waysNow x_houses x_people now home path)) 0 0 now between).1) (if tn p2 = 1 then (f_X9_danger_L39 x_people 0 1) else ((f_X9_danger_L39 x_people 0 1) * (f_X9_danger_L39 x_people 0 1))) p3, 0, (f_X9_copies (f_X9_copies now begun) ((f_X9_danger_L85 x_houses x_people now begun home path kin p1 p2 (tn (f_X9_waysNow x_houses x_people now home path)) 0 0 now between).2.1)), (f_X9_copies now begun), (f_X9_danger_L85 x_houses x_people now begun home path kin p1 p2 (tn (f_X9_waysNow x_houses x_people now home path)) 0 0 now between).2.2) else ((-2), 0, now, begun, between)))
set_option maxHeartbeats 4000000 in
set_option maxRecDepth 100000 in
theorem c_X9_danger (g : GT) (w0 : Wd) (B : Nat → Nat) (hB : ∀ i j, i < 60 → j < 60 → B i = B j → i = j) (x_thrown : Int32) (x_houses : Nat) (x_people : Nat) (x_paths : Nat) (x_acts : Nat) (x_size : Nat) (x_at : Nat) (x_readHouses : Nat) (x_readPeople : Nat) (x_readPaths : Nat) (x_sights : Nat) (x_drawn : Int64) (now : Nat → Int32) (begun : Nat → Int32) (home : Nat → Int32) (path : Nat → Int32) (kin : Nat → Int32) (between : Nat → Int32) (p1 : Int32) (p2 : Int32) (p3 : Bool) (hxp : x_people ≤ 6) (hxh : x_houses ≤ 4) (hom : ∀ q, q < 6 → home q = nI (tn (home q)) ∧ tn (home q) < 4) (hl_204_hend : ¬ (f_X9_noOne x_people p1 = true) → (f_X9_in p2.toInt64 1 2 = true) → f_X9_part_L6_E fuelG ((f_X9_danger_L85 x_houses x_people now begun home path kin p1 p2 (tn (f_X9_waysNow x_houses x_people now home path)) 0 0 now between).1) (if tn p2 = 1 then (f_X9_danger_L39 x_people 0 1) else ((f_X9_danger_L39 x_people 0 1) * (f_X9_danger_L39 x_people 0 1))) = true) (hl_204_hnz : ¬ (f_X9_noOne x_people p1 = true) → (f_X9_in p2.toInt64 1 2 = true) → ¬ (f_X9_part_L6 fuelG ((f_X9_danger_L85 x_houses x_people now begun home path kin p1 p2 (tn (f_X9_waysNow x_houses x_people now home path)) 0 0 now between).1) (if tn p2 = 1 then (f_X9_danger_L39 x_people 0 1) else ((f_X9_danger_L39 x_people 0 1) * (f_X9_danger_L39 x_people 0 1)))).1 = 0) (h_m : w0 (B 0) = some (.inr (9, cM B (x_thrown, x_houses, x_people, x_paths, x_acts, x_size, x_at, x_readHouses, x_readPeople, x_readPaths, x_sights, x_drawn)))) (h_now : w0 (B 7) = some (.inl (g.2.2.1 0, 43, .inl now))) (h_begun : w0 (B 28) = some (.inl (g.2.2.1 0, 43, .inl begun))) (h_home : w0 (B 5) = some (.inl (g.2.2.1 0, 6, .inl home))) (h_path : w0 (B 4) = some (.inl (g.2.2.1 0, 16, .inl path))) (h_kin : w0 (B 6) = some (.inl (g.2.2.1 0, 6, .inl kin))) (h_between : w0 (B 29) = some (.inl (g.2.2.1 0, 43, .inl between))) : CT g yX9_danger cX9_danger 12 (some .long) 6 144 0 0 w0 [.ref (B 0), .int p1, .int p2, .int (bI p3)] (fun r w2 => r = some (.long ((f_X9_danger x_houses x_people now begun home path kin between p1 p2 p3).1)) ∧ w2 (B 0) = some (.inr (9, cM B ((f_X9_danger x_houses x_people now begun home path kin between p1 p2 p3).2.1, x_houses, x_people, x_paths, x_acts, x_size, x_at, x_readHouses, x_readPeople, x_readPaths, x_sights, x_drawn))) ∧ w2 (B 7) = some (.inl (g.2.2.1 0, 43, .inl ((f_X9_danger x_houses x_people now begun home path kin between p1 p2 p3).2.2.1))) ∧ w2 (B 28) = some (.inl (g.2.2.1 0, 43, .inl ((f_X9_danger x_houses x_people now begun home path kin between p1 p2 p3).2.2.2.1))) ∧ w2 (B 29) = some (.inl (g.2.2.1 0, 43, .inl ((f_X9_danger x_houses x_people now begun home path kin between p1 p2 p3).2.2.2.2))) ∧ wE (fun q => q = (B 0) ∨ q = (B 7) ∨ q = (B 28) ∨ q = (B 29)) w0 w2) := by
  refine CT.of (own := RX9) (by decide +kernel) rfl (Nat.le_of_ble_eq_true rfl) (fun X hC hR hI => ?_)
  show V g X 12 w0 0 0 0 [(0, .ref (B 0)), (1, .int p1), (2, .int p2), (3, .int (bI p3))] []
  have hE : wE (fun q => q = (B 0) ∨ q = (B 7) ∨ q = (B 28) ∨ q = (B 29)) w0 w0 := wE.refl
  refine vv_aload_n hC 0 dX9_danger_0 rfl rfl ?_
  refine vv_iconst (v := 0) hC dX9_danger_1 (by decide) ?_
  refine vv_put hC fp_X9_69 dX9_danger_2 h_m rfl rfl (Nat.le_of_ble_eq_true rfl) (fun w1 t1 hs => ?_)
  have t1 : w1 (B 0) = some (.inr (9, cM B (0, x_houses, x_people, x_paths, x_acts, x_size, x_at, x_readHouses, x_readPeople, x_readPaths, x_sights, x_drawn))) := t1.trans (congrArg (fun z => some (Sum.inr (9, z))) (eM_thrown _ _ _ _ _ _ _ _ _ _ _ _ _ _))
  have h_now := hs _ _ (fw_ao h_now h_m) h_now
  have h_begun := hs _ _ (fw_ao h_begun h_m) h_begun
  have h_home := hs _ _ (fw_ao h_home h_m) h_home
  have h_path := hs _ _ (fw_ao h_path h_m) h_path
  have h_kin := hs _ _ (fw_ao h_kin h_m) h_kin
  have h_between := hs _ _ (fw_ao h_between h_m) h_between
  have h_m := t1
  have hE := hE.trans (hs.mono (fun _ z => (Or.inl z)))
  refine vv_aload_n hC 0 dX9_danger_5 rfl rfl ?_
  refine vv_iload_n hC 1 dX9_danger_6 rfl rfl ?_
  refine vv_callV hC dX9_danger_7 md_X9_noOne lk_m_X9_168 lk_i_X9_noOne lk_s_X9_noOne h_m rfl (As := [.int p1]) (rest := []) (c_X9_noOne g w1 B hB 0 x_houses x_people x_paths x_acts x_size x_at x_readHouses x_readPeople x_readPaths x_sights x_drawn p1 h_m) rfl rfl (Nat.le_of_ble_eq_true rfl) ⟨by decide, by decide, by decide, by decide⟩ (fun r w9 hq => ?_)
  obtain ⟨rfl, rfl⟩ := hq
  show V g X 12 w1 0 0 10 [(0, .ref (B 0)), (1, .int p1), (2, .int p2), (3, .int (bI p3))] [.int (bI (f_X9_noOne x_people p1))]
  refine vv_if_eq hC 17 dX9_danger_10 (by decide) (fun c2 => ?_) (fun c2 => ?_)
  · have c2 : ¬ (f_X9_noOne x_people p1 = true) := bI_f c2
    have bc2 := noOne_b (by omega) c2
    refine vv_iload_n hC 2 dX9_danger_17 rfl rfl ?_
    refine vv_i2l hC dX9_danger_18 ?_
    refine vv_lconst (v := 1) hC dX9_danger_19 (by decide) ?_
    refine vv_ldc2 (v := (2)) hC lk_l_X9_193 dX9_danger_20 ?_
    refine vv_callS hC dX9_danger_23 md_X9_in lk_m_X9_76 lk_t_X9_in (As := [.long p2.toInt64, .long 1, .long 2]) (rest := []) (c_X9_in g w1 p2.toInt64 1 2) rfl rfl (Nat.le_of_ble_eq_true rfl) ⟨by decide, by decide, by decide, by decide⟩ (fun r w9 hq => ?_)
    obtain ⟨rfl, rfl⟩ := hq
    show V g X 12 w1 0 0 26 [(0, .ref (B 0)), (1, .int p1), (2, .int p2), (3, .int (bI p3))] [.int (bI (f_X9_in p2.toInt64 1 2))]
    refine vv_if_ne hC 33 dX9_danger_26 (by decide) (fun c3 => ?_) (fun c3 => ?_)
    · have c3 : f_X9_in p2.toInt64 1 2 = true := bI_t c3
      have bc3 := inC_b (lo := 1) (hi := 2) (by decide) (by decide) (by decide) c3
      refine vv_lconst (v := 1) hC dX9_danger_33 (by decide) ?_
      refine vv_lstore (lv2 := [(4, .long 1), (0, .ref (B 0)), (1, .int p1), (2, .int p2), (3, .int (bI p3))]) hC dX9_danger_34 (by decide) rfl ?_
      refine vv_iconst (v := 0) hC dX9_danger_36 (by decide) ?_
      refine vv_istore (lv2 := [(6, .int 0), (4, .long 1), (0, .ref (B 0)), (1, .int p1), (2, .int p2), (3, .int (bI p3))]) hC dX9_danger_37 (by decide) rfl ?_
      have hL4 : ∀ (r39 k39 : Nat) (l4_39 : Int64) (out : Int64), k39 + r39 = x_people → out = f_X9_danger_L39 r39 k39 l4_39 → V g X 12 w1 0 0 62 [(0, .ref (B 0)), (1, .int p1), (2, .int p2), (3, .int (bI p3)), (4, .long out)] [] → V g X 12 w1 0 0 39 [(0, .ref (B 0)), (1, .int p1), (2, .int p2), (3, .int (bI p3)), (4, .long l4_39), (6, .int (nI k39))] [] := by
        intro r39
        induction r39 with
        | zero =>
          intro k39 l4_39 out hb ho hk
          refine vv_iload hC 5 dX9_danger_39 rfl ?_
          refine vv_aload_n hC 0 dX9_danger_41 rfl rfl ?_
          refine vv_get (v := .int (nI x_people)) hC fl_X9_80 dX9_danger_42 h_m rfl ?_
          refine vv_icmp_ge hC 62 dX9_danger_45 (by decide) (fun c => ?_) (fun c => False.elim (c ((nI_le_ (a := x_people) (b := k39) (by omega) (by omega)).mpr (by omega))))
          refine vv_lv [0, 1, 2, 3, 4] rfl ?_
          have ho := ho.trans (by first | (simp only [f_X9_danger_L39]; done) | rfl | (simp only [f_X9_danger_L39]; rfl) : _ = l4_39)
          subst ho
          exact hk
        | succ r39 ih =>
          intro k39 l4_39 out hb ho hk
          refine vv_iload hC 5 dX9_danger_39 rfl ?_
          refine vv_aload_n hC 0 dX9_danger_41 rfl rfl ?_
          refine vv_get (v := .int (nI x_people)) hC fl_X9_80 dX9_danger_42 h_m rfl ?_
          refine vv_icmp_ge hC 62 dX9_danger_45 (by decide) (fun c => absurd ((nI_le_ (a := x_people) (b := k39) (by omega) (by omega)).mp c) (by first | omega | decide)) (fun c => ?_)
          refine vv_lload hC 4 dX9_danger_48 rfl ?_
          refine vv_ldc2 (v := (6)) hC lk_l_X9_206 dX9_danger_50 ?_
          refine vv_lmul hC dX9_danger_53 ?_
          refine vv_lstore (lv2 := [(4, .long (l4_39 * 6)), (0, .ref (B 0)), (1, .int p1), (2, .int p2), (3, .int (bI p3)), (6, .int (nI k39))]) hC dX9_danger_54 (by decide) rfl ?_
          refine vv_iinc (lv2 := [(6, .int (nI (k39 + 1))), (4, .long (l4_39 * 6)), (0, .ref (B 0)), (1, .int p1), (2, .int p2), (3, .int (bI p3))]) hC 5 dX9_danger_56 rfl (nI_add k39 1) (by decide) rfl ?_
          refine vv_goto hC 39 dX9_danger_59 (by decide) ?_
          refine vv_lv [2, 3, 4, 5, 1, 0] rfl ?_
          exact ih (k39 + 1) (l4_39 * 6) out (by omega) (ho.trans (by first | (simp only [f_X9_danger_L39]; done) | rfl | (simp only [f_X9_danger_L39]; rfl))) hk
      refine vv_lv [2, 3, 4, 5, 1, 0] rfl ?_
      refine hL4 x_people 0 1 (f_X9_danger_L39 x_people 0 1) (by omega) rfl ?_
      refine vv_aload_n hC 0 dX9_danger_62 rfl rfl ?_
      refine vv_get (v := .ref (B 7)) hC fl_X9_19 dX9_danger_63 h_m rfl ?_
      refine vv_aload_n hC 0 dX9_danger_66 rfl rfl ?_
      refine vv_get (v := .ref (B 28)) hC fl_X9_63 dX9_danger_67 h_m rfl ?_
      refine vv_callS hC dX9_danger_70 md_X9_copies lk_m_X9_259 lk_t_X9_copies (As := [.ref (B 7), .ref (B 28)]) (rest := []) (c_X9_copies g w1 (B 7) (B 28) now begun h_now h_begun (fw_inj hB (by decide) (by decide) (by decide))) rfl rfl (Nat.le_of_ble_eq_true rfl) ⟨by decide, by decide, by decide, by decide⟩ (fun r w9 hq => ?_)
      obtain ⟨rfl, t1, hs⟩ := hq
      obtain ⟨w5, rfl⟩ : ∃ z, z = w9 := ⟨_, rfl⟩
      have h_m := hs _ _ (fw_oa h_m h_begun) h_m
      have h_now := hs _ _ (fw_inj hB (by decide) (by decide) (by decide)) h_now
      have h_home := hs _ _ (fw_inj hB (by decide) (by decide) (by decide)) h_home
      have h_path := hs _ _ (fw_inj hB (by decide) (by decide) (by decide)) h_path
      have h_kin := hs _ _ (fw_inj hB (by decide) (by decide) (by decide)) h_kin
      have h_between := hs _ _ (fw_inj hB (by decide) (by decide) (by decide)) h_between
      have h_begun := t1
      have hE := hE.trans (hs.mono (fun _ z => (Or.inr (Or.inr (Or.inl z)))))
      show V g X 12 w5 0 0 73 [(0, .ref (B 0)), (1, .int p1), (2, .int p2), (3, .int (bI p3)), (4, .long (f_X9_danger_L39 x_people 0 1))] []
      refine vv_lconst (v := 0) hC dX9_danger_73 (by decide) ?_
      refine vv_lstore (lv2 := [(6, .long 0), (0, .ref (B 0)), (1, .int p1), (2, .int p2), (3, .int (bI p3)), (4, .long (f_X9_danger_L39 x_people 0 1))]) hC dX9_danger_74 (by decide) rfl ?_
      refine vv_aload_n hC 1 dX9_danger_76 rfl rfl ?_
      refine vv_callV hC dX9_danger_77 md_X9_waysNow lk_m_X9_263 lk_i_X9_waysNow lk_s_X9_waysNow h_m rfl (As := []) (rest := []) (c_X9_waysNow g w5 B hB 0 x_houses x_people x_paths x_acts x_size x_at x_readHouses x_readPeople x_readPaths x_sights x_drawn now home path (by omega) (by omega) (hom) h_m h_now h_home h_path) rfl rfl (Nat.le_of_ble_eq_true rfl) ⟨by decide, by decide, by decide, by decide⟩ (fun r w9 hq => ?_)
      obtain ⟨rfl, rfl⟩ := hq
      show V g X 12 w5 0 0 80 [(6, .long 0), (0, .ref (B 0)), (1, .int p1), (2, .int p2), (3, .int (bI p3)), (4, .long (f_X9_danger_L39 x_people 0 1))] [.int (f_X9_waysNow x_houses x_people now home path)]
      have b6 := (show tn (f_X9_waysNow x_houses x_people now home path) ≤ 4096 from ways_b hxh hxp)
      refine vv_topi (nI (tn (f_X9_waysNow x_houses x_people now home path))) (ways_e hxh hxp) ?_
      refine vv_istore (lv2 := [(8, .int (nI (tn (f_X9_waysNow x_houses x_people now home path)))), (6, .long 0), (0, .ref (B 0)), (1, .int p1), (2, .int p2), (3, .int (bI p3)), (4, .long (f_X9_danger_L39 x_people 0 1))]) hC dX9_danger_80 (by decide) rfl ?_
      refine vv_iconst (v := 0) hC dX9_danger_82 (by decide) ?_
      refine vv_istore (lv2 := [(9, .int 0), (8, .int (nI (tn (f_X9_waysNow x_houses x_people now home path)))), (6, .long 0), (0, .ref (B 0)), (1, .int p1), (2, .int p2), (3, .int (bI p3)), (4, .long (f_X9_danger_L39 x_people 0 1))]) hC dX9_danger_83 (by decide) rfl ?_
      have hL18 : ∀ (r85 k85 : Nat) (l6_85 : Int64) (y_now_85 : Nat → Int32) (y_between_85 : Nat → Int32) (w7 : Wd) (out : Int64 × (Nat → Int32) × (Nat → Int32)), k85 + r85 = tn (f_X9_waysNow x_houses x_people now home path) → out = f_X9_danger_L85 x_houses x_people now begun home path kin p1 p2 r85 k85 l6_85 y_now_85 y_between_85 → w7 (B 0) = some (.inr (9, cM B (0, x_houses, x_people, x_paths, x_acts, x_size, x_at, x_readHouses, x_readPeople, x_readPaths, x_sights, x_drawn))) → w7 (B 7) = some (.inl (g.2.2.1 0, 43, .inl y_now_85)) → w7 (B 28) = some (.inl (g.2.2.1 0, 43, .inl (f_X9_copies now begun))) → w7 (B 5) = some (.inl (g.2.2.1 0, 6, .inl home)) → w7 (B 4) = some (.inl (g.2.2.1 0, 16, .inl path)) → w7 (B 6) = some (.inl (g.2.2.1 0, 6, .inl kin)) → w7 (B 29) = some (.inl (g.2.2.1 0, 43, .inl y_between_85)) → wE (fun q => q = (B 0) ∨ q = (B 7) ∨ q = (B 28) ∨ q = (B 29)) w0 w7 → (∀ w17 : Wd, w17 (B 0) = some (.inr (9, cM B (0, x_houses, x_people, x_paths, x_acts, x_size, x_at, x_readHouses, x_readPeople, x_readPaths, x_sights, x_drawn))) → w17 (B 7) = some (.inl (g.2.2.1 0, 43, .inl out.2.1)) → w17 (B 28) = some (.inl (g.2.2.1 0, 43, .inl (f_X9_copies now begun))) → w17 (B 5) = some (.inl (g.2.2.1 0, 6, .inl home)) → w17 (B 4) = some (.inl (g.2.2.1 0, 16, .inl path)) → w17 (B 6) = some (.inl (g.2.2.1 0, 6, .inl kin)) → w17 (B 29) = some (.inl (g.2.2.1 0, 43, .inl out.2.2)) → wE (fun q => q = (B 0) ∨ q = (B 7) ∨ q = (B 28) ∨ q = (B 29)) w0 w17 → V g X 12 w17 0 0 175 [(0, .ref (B 0)), (1, .int p1), (2, .int p2), (3, .int (bI p3)), (4, .long (f_X9_danger_L39 x_people 0 1)), (6, .long out.1), (8, .int (nI (tn (f_X9_waysNow x_houses x_people now home path))))] []) → V g X 12 w7 0 0 85 [(0, .ref (B 0)), (1, .int p1), (2, .int p2), (3, .int (bI p3)), (4, .long (f_X9_danger_L39 x_people 0 1)), (6, .long l6_85), (8, .int (nI (tn (f_X9_waysNow x_houses x_people now home path)))), (9, .int (nI k85))] [] := by
        intro r85
        induction r85 with
        | zero =>
          intro k85 l6_85 y_now_85 y_between_85 w7 out hb ho h_m h_now h_begun h_home h_path h_kin h_between hE hk
          refine vv_iload hC 7 dX9_danger_85 rfl ?_
          refine vv_iload hC 6 dX9_danger_87 rfl ?_
          refine vv_icmp_ge hC 175 dX9_danger_89 (by decide) (fun c => ?_) (fun c => False.elim (c ((nI_le_ (a := tn (f_X9_waysNow x_houses x_people now home path)) (b := k85) (by omega) (by omega)).mpr (by omega))))
          refine vv_lv [0, 1, 2, 3, 4, 5, 6] rfl ?_
          have ho := ho.trans (by first | (simp only [f_X9_danger_L85]; done) | rfl | (simp only [f_X9_danger_L85]; rfl) : _ = (l6_85, y_now_85, y_between_85))
          subst ho
          exact hk w7 h_m h_now h_begun h_home h_path h_kin h_between hE
        | succ r85 ih =>
          intro k85 l6_85 y_now_85 y_between_85 w7 out hb ho h_m h_now h_begun h_home h_path h_kin h_between hE hk
          refine vv_iload hC 7 dX9_danger_85 rfl ?_
          refine vv_iload hC 6 dX9_danger_87 rfl ?_
          refine vv_icmp_ge hC 175 dX9_danger_89 (by decide) (fun c => absurd ((nI_le_ (a := tn (f_X9_waysNow x_houses x_people now home path)) (b := k85) (by omega) (by omega)).mp c) (by first | omega | decide)) (fun c => ?_)
          refine vv_aload_n hC 0 dX9_danger_92 rfl rfl ?_
          refine vv_get (v := .ref (B 28)) hC fl_X9_63 dX9_danger_93 h_m rfl ?_
          refine vv_aload_n hC 0 dX9_danger_96 rfl rfl ?_
          refine vv_get (v := .ref (B 7)) hC fl_X9_19 dX9_danger_97 h_m rfl ?_
          refine vv_callS hC dX9_danger_100 md_X9_copies lk_m_X9_259 lk_t_X9_copies (As := [.ref (B 28), .ref (B 7)]) (rest := []) (c_X9_copies g w7 (B 28) (B 7) (f_X9_copies now begun) y_now_85 h_begun h_now (fw_inj hB (by decide) (by decide) (by decide))) rfl rfl (Nat.le_of_ble_eq_true rfl) ⟨by decide, by decide, by decide, by decide⟩ (fun r w9 hq => ?_)
          obtain ⟨rfl, t1, hs⟩ := hq
          obtain ⟨w8, rfl⟩ : ∃ z, z = w9 := ⟨_, rfl⟩
          have h_m := hs _ _ (fw_oa h_m h_now) h_m
          have h_begun := hs _ _ (fw_inj hB (by decide) (by decide) (by decide)) h_begun
          have h_home := hs _ _ (fw_inj hB (by decide) (by decide) (by decide)) h_home
          have h_path := hs _ _ (fw_inj hB (by decide) (by decide) (by decide)) h_path
          have h_kin := hs _ _ (fw_inj hB (by decide) (by decide) (by decide)) h_kin
          have h_between := hs _ _ (fw_inj hB (by decide) (by decide) (by decide)) h_between
          have h_now := t1
          have hE := hE.trans (hs.mono (fun _ z => (Or.inr (Or.inl z))))
          show V g X 12 w8 0 0 103 [(0, .ref (B 0)), (1, .int p1), (2, .int p2), (3, .int (bI p3)), (4, .long (f_X9_danger_L39 x_people 0 1)), (6, .long l6_85), (8, .int (nI (tn (f_X9_waysNow x_houses x_people now home path)))), (9, .int (nI k85))] []
          refine vv_aload_n hC 0 dX9_danger_103 rfl rfl ?_
          refine vv_iload hC 7 dX9_danger_104 rfl ?_
          refine vv_callV hC dX9_danger_106 md_X9_goesBy lk_m_X9_266 lk_i_X9_goesBy lk_s_X9_goesBy h_m rfl (As := [.int (nI k85)]) (rest := []) (c_X9_goesBy g w8 B hB 0 x_houses x_people x_paths x_acts x_size x_at x_readHouses x_readPeople x_readPaths x_sights x_drawn (f_X9_copies (f_X9_copies now begun) y_now_85) home path kin k85 (by omega) (by omega) (hom) (by omega) h_m h_now h_home h_path h_kin) rfl rfl (Nat.le_of_ble_eq_true rfl) ⟨by decide, by decide, by decide, by decide⟩ (fun r w9 hq => ?_)
          obtain ⟨rfl, t1, hs⟩ := hq
          obtain ⟨w9, rfl⟩ : ∃ z, z = w9 := ⟨_, rfl⟩
          have h_m := hs _ _ (fw_oa h_m h_now) h_m
          have h_begun := hs _ _ (fw_inj hB (by decide) (by decide) (by decide)) h_begun
          have h_home := hs _ _ (fw_inj hB (by decide) (by decide) (by decide)) h_home
          have h_path := hs _ _ (fw_inj hB (by decide) (by decide) (by decide)) h_path
          have h_kin := hs _ _ (fw_inj hB (by decide) (by decide) (by decide)) h_kin
          have h_between := hs _ _ (fw_inj hB (by decide) (by decide) (by decide)) h_between
          have h_now := t1
          have hE := hE.trans (hs.mono (fun _ z => (Or.inr (Or.inl z))))
          show V g X 12 w9 0 0 109 [(0, .ref (B 0)), (1, .int p1), (2, .int p2), (3, .int (bI p3)), (4, .long (f_X9_danger_L39 x_people 0 1)), (6, .long l6_85), (8, .int (nI (tn (f_X9_waysNow x_houses x_people now home path)))), (9, .int (nI k85))] [.long ((f_X9_goesBy x_houses x_people (f_X9_copies (f_X9_copies now begun) y_now_85) home path kin k85).1)]
          refine vv_lstore (lv2 := [(10, .long ((f_X9_goesBy x_houses x_people (f_X9_copies (f_X9_copies now begun) y_now_85) home path kin k85).1)), (0, .ref (B 0)), (1, .int p1), (2, .int p2), (3, .int (bI p3)), (4, .long (f_X9_danger_L39 x_people 0 1)), (6, .long l6_85), (8, .int (nI (tn (f_X9_waysNow x_houses x_people now home path)))), (9, .int (nI k85))]) hC dX9_danger_109 (by decide) rfl ?_
          refine vv_aload_n hC 1 dX9_danger_111 rfl rfl ?_
          refine vv_iload_n hC 2 dX9_danger_112 rfl rfl ?_
          refine vv_topi (nI (tn p1)) (noOne_e (by omega) c2) ?_
          refine vv_iconst (v := 0) hC dX9_danger_113 (by decide) ?_
          refine vv_callV hC dX9_danger_114 md_X9_of lk_m_X9_83 lk_i_X9_of lk_s_X9_of h_m rfl (As := [.int (nI (tn p1)), .int 0]) (rest := []) (c_X9_of g w9 B hB 0 x_houses x_people x_paths x_acts x_size x_at x_readHouses x_readPeople x_readPaths x_sights x_drawn ((f_X9_goesBy x_houses x_people (f_X9_copies (f_X9_copies now begun) y_now_85) home path kin k85).2) (tn p1) 0 (by omega) (by omega) h_m h_now) rfl rfl (Nat.le_of_ble_eq_true rfl) ⟨by decide, by decide, by decide, by decide⟩ (fun r w9 hq => ?_)
          obtain ⟨rfl, rfl⟩ := hq
          show V g X 12 w9 0 0 117 [(10, .long ((f_X9_goesBy x_houses x_people (f_X9_copies (f_X9_copies now begun) y_now_85) home path kin k85).1)), (0, .ref (B 0)), (1, .int p1), (2, .int p2), (3, .int (bI p3)), (4, .long (f_X9_danger_L39 x_people 0 1)), (6, .long l6_85), (8, .int (nI (tn (f_X9_waysNow x_houses x_people now home path)))), (9, .int (nI k85))] [.int (f_X9_of ((f_X9_goesBy x_houses x_people (f_X9_copies (f_X9_copies now begun) y_now_85) home path kin k85).2) (tn p1) 0)]
          refine vv_iconst (v := 1) hC dX9_danger_117 (by decide) ?_
          have hJ11 : ∀ w16 : Wd, w16 (B 0) = some (.inr (9, cM B (0, x_houses, x_people, x_paths, x_acts, x_size, x_at, x_readHouses, x_readPeople, x_readPaths, x_sights, x_drawn))) → w16 (B 7) = some (.inl (g.2.2.1 0, 43, .inl (f_X9_danger_x2 x_houses x_people now begun home path kin p1 p2 k85 y_now_85 y_between_85))) → w16 (B 28) = some (.inl (g.2.2.1 0, 43, .inl (f_X9_copies now begun))) → w16 (B 5) = some (.inl (g.2.2.1 0, 6, .inl home)) → w16 (B 4) = some (.inl (g.2.2.1 0, 16, .inl path)) → w16 (B 6) = some (.inl (g.2.2.1 0, 6, .inl kin)) → w16 (B 29) = some (.inl (g.2.2.1 0, 43, .inl (f_X9_danger_x3 x_houses x_people now begun home path kin p1 p2 k85 y_now_85 y_between_85))) → wE (fun q => q = (B 0) ∨ q = (B 7) ∨ q = (B 28) ∨ q = (B 29)) w0 w16 → V g X 12 w16 0 0 169 [(0, .ref (B 0)), (1, .int p1), (2, .int p2), (3, .int (bI p3)), (4, .long (f_X9_danger_L39 x_people 0 1)), (6, .long (f_X9_danger_x1 x_houses x_people now begun home path kin p1 p2 k85 l6_85 y_now_85 y_between_85)), (8, .int (nI (tn (f_X9_waysNow x_houses x_people now home path)))), (9, .int (nI k85)), (10, .long ((f_X9_goesBy x_houses x_people (f_X9_copies (f_X9_copies now begun) y_now_85) home path kin k85).1))] [] := by
            intro w16 h_m h_now h_begun h_home h_path h_kin h_between hE
            refine vv_iinc (lv2 := [(9, .int (nI (k85 + 1))), (0, .ref (B 0)), (1, .int p1), (2, .int p2), (3, .int (bI p3)), (4, .long (f_X9_danger_L39 x_people 0 1)), (6, .long (f_X9_danger_x1 x_houses x_people now begun home path kin p1 p2 k85 l6_85 y_now_85 y_between_85)), (8, .int (nI (tn (f_X9_waysNow x_houses x_people now home path)))), (10, .long ((f_X9_goesBy x_houses x_people (f_X9_copies (f_X9_copies now begun) y_now_85) home path kin k85).1))]) hC 7 dX9_danger_169 rfl (nI_add k85 1) (by decide) rfl ?_
            refine vv_goto hC 85 dX9_danger_172 (by decide) ?_
            refine vv_lv [1, 2, 3, 4, 5, 6, 7, 0] rfl ?_
            exact ih (k85 + 1) (f_X9_danger_x1 x_houses x_people now begun home path kin p1 p2 k85 l6_85 y_now_85 y_between_85) (f_X9_danger_x2 x_houses x_people now begun home path kin p1 p2 k85 y_now_85 y_between_85) (f_X9_danger_x3 x_houses x_people now begun home path kin p1 p2 k85 y_now_85 y_between_85) w16 out (by omega) (ho.trans (by first | (simp only [f_X9_danger_L85]; done) | rfl | (simp only [f_X9_danger_L85]; rfl))) h_m h_now h_begun h_home h_path h_kin h_between hE hk
          refine vv_icmp_eq hC 126 dX9_danger_118 (by decide) (fun c10 => ?_) (fun c10 => ?_)
          · have c10 : f_X9_of ((f_X9_goesBy x_houses x_people (f_X9_copies (f_X9_copies now begun) y_now_85) home path kin k85).2) (tn p1) 0 = 1 := c10
            refine vv_lload hC 6 dX9_danger_126 rfl ?_
            refine vv_aload_n hC 1 dX9_danger_128 rfl rfl ?_
            refine vv_iload_n hC 2 dX9_danger_129 rfl rfl ?_
            refine vv_topi (nI (tn p1)) (noOne_e (by omega) c2) ?_
            refine vv_iconst (v := 0) hC dX9_danger_130 (by decide) ?_
            refine vv_callV hC dX9_danger_131 md_X9_of lk_m_X9_83 lk_i_X9_of lk_s_X9_of h_m rfl (As := [.int (nI (tn p1)), .int 0]) (rest := [.long l6_85]) (c_X9_of g w9 B hB 0 x_houses x_people x_paths x_acts x_size x_at x_readHouses x_readPeople x_readPaths x_sights x_drawn ((f_X9_goesBy x_houses x_people (f_X9_copies (f_X9_copies now begun) y_now_85) home path kin k85).2) (tn p1) 0 (by omega) (by omega) h_m h_now) rfl rfl (Nat.le_of_ble_eq_true rfl) ⟨by decide, by decide, by decide, by decide⟩ (fun r w9 hq => ?_)
            obtain ⟨rfl, rfl⟩ := hq
            show V g X 12 w9 0 0 134 [(10, .long ((f_X9_goesBy x_houses x_people (f_X9_copies (f_X9_copies now begun) y_now_85) home path kin k85).1)), (0, .ref (B 0)), (1, .int p1), (2, .int p2), (3, .int (bI p3)), (4, .long (f_X9_danger_L39 x_people 0 1)), (6, .long l6_85), (8, .int (nI (tn (f_X9_waysNow x_houses x_people now home path)))), (9, .int (nI k85))] [.int (f_X9_of ((f_X9_goesBy x_houses x_people (f_X9_copies (f_X9_copies now begun) y_now_85) home path kin k85).2) (tn p1) 0), .long l6_85]
            refine vv_i2l hC dX9_danger_134 ?_
            refine vv_lload hC 0 dX9_danger_135 rfl ?_
            refine vv_lmul hC dX9_danger_137 ?_
            refine vv_iload_n hC 3 dX9_danger_138 rfl rfl ?_
            refine vv_topi (nI (tn p2)) (inC_e (lo := 1) (hi := 2) (by decide) (by decide) (by decide) c3) ?_
            refine vv_iconst (v := 1) hC dX9_danger_139 (by decide) ?_
            have hJ13 : V g X 12 w9 0 0 149 [(0, .ref (B 0)), (1, .int p1), (2, .int p2), (3, .int (bI p3)), (4, .long (f_X9_danger_L39 x_people 0 1)), (6, .long l6_85), (8, .int (nI (tn (f_X9_waysNow x_houses x_people now home path)))), (9, .int (nI k85)), (10, .long ((f_X9_goesBy x_houses x_people (f_X9_copies (f_X9_copies now begun) y_now_85) home path kin k85).1))] [.long (if tn p2 = 1 then (1 : Int64) else (f_X9_danger_L39 x_people 0 1)), .long ((f_X9_of ((f_X9_goesBy x_houses x_people (f_X9_copies (f_X9_copies now begun) y_now_85) home path kin k85).2) (tn p1) 0).toInt64 * (f_X9_goesBy x_houses x_people (f_X9_copies (f_X9_copies now begun) y_now_85) home path kin k85).1), .long l6_85] := by
              refine vv_lmul hC dX9_danger_149 ?_
              refine vv_ladd hC dX9_danger_150 ?_
              refine vv_lstore (lv2 := [(6, .long (l6_85 + (((f_X9_of ((f_X9_goesBy x_houses x_people (f_X9_copies (f_X9_copies now begun) y_now_85) home path kin k85).2) (tn p1) 0).toInt64 * (f_X9_goesBy x_houses x_people (f_X9_copies (f_X9_copies now begun) y_now_85) home path kin k85).1) * (if tn p2 = 1 then (1 : Int64) else (f_X9_danger_L39 x_people 0 1))))), (0, .ref (B 0)), (1, .int p1), (2, .int p2), (3, .int (bI p3)), (4, .long (f_X9_danger_L39 x_people 0 1)), (8, .int (nI (tn (f_X9_waysNow x_houses x_people now home path)))), (9, .int (nI k85)), (10, .long ((f_X9_goesBy x_houses x_people (f_X9_copies (f_X9_copies now begun) y_now_85) home path kin k85).1))]) hC dX9_danger_151 (by decide) rfl ?_
              refine vv_goto hC 169 dX9_danger_153 (by decide) ?_
              refine vv_lv [1, 2, 3, 4, 5, 0, 6, 7, 8] rfl ?_
              have hz := hJ11 w9
              try simp only [f_X9_danger_x1, f_X9_danger_x2, f_X9_danger_x3, if_pos c10] at hz
              first | exact hz h_m h_now h_begun h_home h_path h_kin h_between hE | (simp only [f_X9_danger_x1, f_X9_danger_x2, f_X9_danger_x3, if_pos c10]; exact hz h_m h_now h_begun h_home h_path h_kin h_between hE)
            refine vv_icmp_ne hC 147 dX9_danger_140 (by decide) (fun c12 => ?_) (fun c12 => ?_)
            · have c12 : ¬ (tn p2 = 1) := fun z => c12 ((nI_eq_ (a := tn p2) (b := 1) (by omega) (by omega)).mpr z)
              refine vv_lload hC 5 dX9_danger_147 rfl ?_
              refine vv_lv [1, 2, 3, 4, 5, 6, 7, 8, 0] rfl ?_
              have hz := hJ13
              try simp only [if_neg c12] at hz
              first | exact hz | (simp only [if_neg c12]; exact hz)
            · have c12 : tn p2 = 1 := (nI_eq_ (a := tn p2) (b := 1) (by omega) (by omega)).mp c12
              refine vv_lconst (v := 1) hC dX9_danger_143 (by decide) ?_
              refine vv_goto hC 149 dX9_danger_144 (by decide) ?_
              refine vv_lv [1, 2, 3, 4, 5, 6, 7, 8, 0] rfl ?_
              have hz := hJ13
              try simp only [if_pos c12] at hz
              first | exact hz | (simp only [if_pos c12]; exact hz)
          · have c10 : ¬ (f_X9_of ((f_X9_goesBy x_houses x_people (f_X9_copies (f_X9_copies now begun) y_now_85) home path kin k85).2) (tn p1) 0 = 1) := c10
            refine vv_iload_n hC 3 dX9_danger_121 rfl rfl ?_
            refine vv_topi (nI (tn p2)) (inC_e (lo := 1) (hi := 2) (by decide) (by decide) (by decide) c3) ?_
            refine vv_iconst (v := 1) hC dX9_danger_122 (by decide) ?_
            refine vv_icmp_ne hC 156 dX9_danger_123 (by decide) (fun c14 => ?_) (fun c14 => ?_)
            · have c14 : ¬ (tn p2 = 1) := fun z => c14 ((nI_eq_ (a := tn p2) (b := 1) (by omega) (by omega)).mpr z)
              refine vv_lload hC 6 dX9_danger_156 rfl ?_
              refine vv_lload hC 0 dX9_danger_158 rfl ?_
              refine vv_aload_n hC 1 dX9_danger_160 rfl rfl ?_
              refine vv_iload_n hC 2 dX9_danger_161 rfl rfl ?_
              refine vv_topi (nI (tn p1)) (noOne_e (by omega) c2) ?_
              refine vv_callV hC dX9_danger_162 md_X9_secondOf lk_m_X9_270 lk_i_X9_secondOf lk_s_X9_secondOf h_m rfl (As := [.int (nI (tn p1))]) (rest := [.long ((f_X9_goesBy x_houses x_people (f_X9_copies (f_X9_copies now begun) y_now_85) home path kin k85).1), .long l6_85]) (c_X9_secondOf g w9 B hB 0 x_houses x_people x_paths x_acts x_size x_at x_readHouses x_readPeople x_readPaths x_sights x_drawn ((f_X9_goesBy x_houses x_people (f_X9_copies (f_X9_copies now begun) y_now_85) home path kin k85).2) y_between_85 home path kin (tn p1) (by omega) (by omega) (hom) (by omega) h_m h_now h_between h_home h_path h_kin) rfl rfl (Nat.le_of_ble_eq_true rfl) ⟨by decide, by decide, by decide, by decide⟩ (fun r w9 hq => ?_)
              obtain ⟨rfl, t1, t2, hs⟩ := hq
              obtain ⟨w15, rfl⟩ : ∃ z, z = w9 := ⟨_, rfl⟩
              have h_m := hs _ _ (fun z => z.elim (fw_oa h_m h_now) (fw_oa h_m h_between)) h_m
              have h_begun := hs _ _ (fun z => z.elim (fw_inj hB (by decide) (by decide) (by decide)) (fw_inj hB (by decide) (by decide) (by decide))) h_begun
              have h_home := hs _ _ (fun z => z.elim (fw_inj hB (by decide) (by decide) (by decide)) (fw_inj hB (by decide) (by decide) (by decide))) h_home
              have h_path := hs _ _ (fun z => z.elim (fw_inj hB (by decide) (by decide) (by decide)) (fw_inj hB (by decide) (by decide) (by decide))) h_path
              have h_kin := hs _ _ (fun z => z.elim (fw_inj hB (by decide) (by decide) (by decide)) (fw_inj hB (by decide) (by decide) (by decide))) h_kin
              have h_now := t1
              have h_between := t2
              have hE := hE.trans (hs.mono (fun _ z => z.elim (fun z => (Or.inr (Or.inl z))) (fun z => (Or.inr (Or.inr (Or.inr z))))))
              show V g X 12 w15 0 0 165 [(10, .long ((f_X9_goesBy x_houses x_people (f_X9_copies (f_X9_copies now begun) y_now_85) home path kin k85).1)), (0, .ref (B 0)), (1, .int p1), (2, .int p2), (3, .int (bI p3)), (4, .long (f_X9_danger_L39 x_people 0 1)), (6, .long l6_85), (8, .int (nI (tn (f_X9_waysNow x_houses x_people now home path)))), (9, .int (nI k85))] [.long ((f_X9_secondOf x_houses x_people ((f_X9_goesBy x_houses x_people (f_X9_copies (f_X9_copies now begun) y_now_85) home path kin k85).2) y_between_85 home path kin (tn p1)).1), .long ((f_X9_goesBy x_houses x_people (f_X9_copies (f_X9_copies now begun) y_now_85) home path kin k85).1), .long l6_85]
              refine vv_lmul hC dX9_danger_165 ?_
              refine vv_ladd hC dX9_danger_166 ?_
              refine vv_lstore (lv2 := [(6, .long (l6_85 + ((f_X9_goesBy x_houses x_people (f_X9_copies (f_X9_copies now begun) y_now_85) home path kin k85).1 * (f_X9_secondOf x_houses x_people ((f_X9_goesBy x_houses x_people (f_X9_copies (f_X9_copies now begun) y_now_85) home path kin k85).2) y_between_85 home path kin (tn p1)).1))), (10, .long ((f_X9_goesBy x_houses x_people (f_X9_copies (f_X9_copies now begun) y_now_85) home path kin k85).1)), (0, .ref (B 0)), (1, .int p1), (2, .int p2), (3, .int (bI p3)), (4, .long (f_X9_danger_L39 x_people 0 1)), (8, .int (nI (tn (f_X9_waysNow x_houses x_people now home path)))), (9, .int (nI k85))]) hC dX9_danger_167 (by decide) rfl ?_
              refine vv_lv [2, 3, 4, 5, 6, 0, 7, 8, 1] rfl ?_
              have hz := hJ11 w15
              try simp only [f_X9_danger_x1, f_X9_danger_x2, f_X9_danger_x3, if_neg c10, if_neg c14] at hz
              first | exact hz h_m h_now h_begun h_home h_path h_kin h_between hE | (simp only [f_X9_danger_x1, f_X9_danger_x2, f_X9_danger_x3, if_neg c10, if_neg c14]; exact hz h_m h_now h_begun h_home h_path h_kin h_between hE)
            · have c14 : tn p2 = 1 := (nI_eq_ (a := tn p2) (b := 1) (by omega) (by omega)).mp c14
              refine vv_lload hC 6 dX9_danger_126 rfl ?_
              refine vv_aload_n hC 1 dX9_danger_128 rfl rfl ?_
              refine vv_iload_n hC 2 dX9_danger_129 rfl rfl ?_
              refine vv_topi (nI (tn p1)) (noOne_e (by omega) c2) ?_
              refine vv_iconst (v := 0) hC dX9_danger_130 (by decide) ?_
              refine vv_callV hC dX9_danger_131 md_X9_of lk_m_X9_83 lk_i_X9_of lk_s_X9_of h_m rfl (As := [.int (nI (tn p1)), .int 0]) (rest := [.long l6_85]) (c_X9_of g w9 B hB 0 x_houses x_people x_paths x_acts x_size x_at x_readHouses x_readPeople x_readPaths x_sights x_drawn ((f_X9_goesBy x_houses x_people (f_X9_copies (f_X9_copies now begun) y_now_85) home path kin k85).2) (tn p1) 0 (by omega) (by omega) h_m h_now) rfl rfl (Nat.le_of_ble_eq_true rfl) ⟨by decide, by decide, by decide, by decide⟩ (fun r w9 hq => ?_)
              obtain ⟨rfl, rfl⟩ := hq
              show V g X 12 w9 0 0 134 [(10, .long ((f_X9_goesBy x_houses x_people (f_X9_copies (f_X9_copies now begun) y_now_85) home path kin k85).1)), (0, .ref (B 0)), (1, .int p1), (2, .int p2), (3, .int (bI p3)), (4, .long (f_X9_danger_L39 x_people 0 1)), (6, .long l6_85), (8, .int (nI (tn (f_X9_waysNow x_houses x_people now home path)))), (9, .int (nI k85))] [.int (f_X9_of ((f_X9_goesBy x_houses x_people (f_X9_copies (f_X9_copies now begun) y_now_85) home path kin k85).2) (tn p1) 0), .long l6_85]
              refine vv_i2l hC dX9_danger_134 ?_
              refine vv_lload hC 0 dX9_danger_135 rfl ?_
              refine vv_lmul hC dX9_danger_137 ?_
              refine vv_iload_n hC 3 dX9_danger_138 rfl rfl ?_
              refine vv_topi (nI (tn p2)) (inC_e (lo := 1) (hi := 2) (by decide) (by decide) (by decide) c3) ?_
              refine vv_iconst (v := 1) hC dX9_danger_139 (by decide) ?_
              refine vv_icmp_ne hC 147 dX9_danger_140 (by decide) (fun c => by first | exact absurd (fun z => c ((nI_eq_ (a := tn p2) (b := 1) (by omega) (by omega)).mpr z)) c14 | exact absurd c14 (fun z => c ((nI_eq_ (a := tn p2) (b := 1) (by omega) (by omega)).mpr z))) (fun c => ?_)
              refine vv_lconst (v := 1) hC dX9_danger_143 (by decide) ?_
              refine vv_goto hC 149 dX9_danger_144 (by decide) ?_
              refine vv_lmul hC dX9_danger_149 ?_
              refine vv_ladd hC dX9_danger_150 ?_
              refine vv_lstore (lv2 := [(6, .long (l6_85 + (((f_X9_of ((f_X9_goesBy x_houses x_people (f_X9_copies (f_X9_copies now begun) y_now_85) home path kin k85).2) (tn p1) 0).toInt64 * (f_X9_goesBy x_houses x_people (f_X9_copies (f_X9_copies now begun) y_now_85) home path kin k85).1) * 1))), (10, .long ((f_X9_goesBy x_houses x_people (f_X9_copies (f_X9_copies now begun) y_now_85) home path kin k85).1)), (0, .ref (B 0)), (1, .int p1), (2, .int p2), (3, .int (bI p3)), (4, .long (f_X9_danger_L39 x_people 0 1)), (8, .int (nI (tn (f_X9_waysNow x_houses x_people now home path)))), (9, .int (nI k85))]) hC dX9_danger_151 (by decide) rfl ?_
              refine vv_goto hC 169 dX9_danger_153 (by decide) ?_
              refine vv_lv [2, 3, 4, 5, 6, 0, 7, 8, 1] rfl ?_
              have hz := hJ11 w9
              try simp only [f_X9_danger_x1, f_X9_danger_x2, f_X9_danger_x3, if_neg c10, if_pos c14] at hz
              first | exact hz h_m h_now h_begun h_home h_path h_kin h_between hE | (simp only [f_X9_danger_x1, f_X9_danger_x2, f_X9_danger_x3, if_neg c10, if_pos c14]; exact hz h_m h_now h_begun h_home h_path h_kin h_between hE)
      refine vv_lv [3, 4, 5, 6, 7, 2, 1, 0] rfl ?_
      refine hL18 (tn (f_X9_waysNow x_houses x_people now home path)) 0 0 now between w5 (f_X9_danger_L85 x_houses x_people now begun home path kin p1 p2 (tn (f_X9_waysNow x_houses x_people now home path)) 0 0 now between) (by omega) rfl h_m h_now h_begun h_home h_path h_kin h_between hE ?_
      intro w17 h_m h_now h_begun h_home h_path h_kin h_between hE
      refine vv_aload_n hC 0 dX9_danger_175 rfl rfl ?_
      refine vv_get (v := .ref (B 28)) hC fl_X9_63 dX9_danger_176 h_m rfl ?_
      refine vv_aload_n hC 0 dX9_danger_179 rfl rfl ?_
      refine vv_get (v := .ref (B 7)) hC fl_X9_19 dX9_danger_180 h_m rfl ?_
      refine vv_callS hC dX9_danger_183 md_X9_copies lk_m_X9_259 lk_t_X9_copies (As := [.ref (B 28), .ref (B 7)]) (rest := []) (c_X9_copies g w17 (B 28) (B 7) (f_X9_copies now begun) ((f_X9_danger_L85 x_houses x_people now begun home path kin p1 p2 (tn (f_X9_waysNow x_houses x_people now home path)) 0 0 now between).2.1) h_begun h_now (fw_inj hB (by decide) (by decide) (by decide))) rfl rfl (Nat.le_of_ble_eq_true rfl) ⟨by decide, by decide, by decide, by decide⟩ (fun r w9 hq => ?_)
      obtain ⟨rfl, t1, hs⟩ := hq
      obtain ⟨w19, rfl⟩ : ∃ z, z = w9 := ⟨_, rfl⟩
      have h_m := hs _ _ (fw_oa h_m h_now) h_m
      have h_begun := hs _ _ (fw_inj hB (by decide) (by decide) (by decide)) h_begun
      have h_home := hs _ _ (fw_inj hB (by decide) (by decide) (by decide)) h_home
      have h_path := hs _ _ (fw_inj hB (by decide) (by decide) (by decide)) h_path
      have h_kin := hs _ _ (fw_inj hB (by decide) (by decide) (by decide)) h_kin
      have h_between := hs _ _ (fw_inj hB (by decide) (by decide) (by decide)) h_between
      have h_now := t1
      have hE := hE.trans (hs.mono (fun _ z => (Or.inr (Or.inl z))))
      show V g X 12 w19 0 0 186 [(0, .ref (B 0)), (1, .int p1), (2, .int p2), (3, .int (bI p3)), (4, .long (f_X9_danger_L39 x_people 0 1)), (6, .long ((f_X9_danger_L85 x_houses x_people now begun home path kin p1 p2 (tn (f_X9_waysNow x_houses x_people now home path)) 0 0 now between).1)), (8, .int (nI (tn (f_X9_waysNow x_houses x_people now home path))))] []
      refine vv_lload hC 5 dX9_danger_186 rfl ?_
      refine vv_iload_n hC 2 dX9_danger_188 rfl rfl ?_
      refine vv_topi (nI (tn p2)) (inC_e (lo := 1) (hi := 2) (by decide) (by decide) (by decide) c3) ?_
      refine vv_iconst (v := 1) hC dX9_danger_189 (by decide) ?_
      have hJ21 : V g X 12 w19 0 0 203 [(0, .ref (B 0)), (1, .int p1), (2, .int p2), (3, .int (bI p3)), (4, .long (f_X9_danger_L39 x_people 0 1)), (6, .long ((f_X9_danger_L85 x_houses x_people now begun home path kin p1 p2 (tn (f_X9_waysNow x_houses x_people now home path)) 0 0 now between).1)), (8, .int (nI (tn (f_X9_waysNow x_houses x_people now home path))))] [.long (if tn p2 = 1 then (f_X9_danger_L39 x_people 0 1) else ((f_X9_danger_L39 x_people 0 1) * (f_X9_danger_L39 x_people 0 1))), .long ((f_X9_danger_L85 x_houses x_people now begun home path kin p1 p2 (tn (f_X9_waysNow x_houses x_people now home path)) 0 0 now between).1)] := by
        refine vv_iload_n hC 3 dX9_danger_203 rfl rfl ?_
        refine vv_callS hC dX9_danger_204 md_X9_part lk_m_X9_241 lk_t_X9_part (As := [.long ((f_X9_danger_L85 x_houses x_people now begun home path kin p1 p2 (tn (f_X9_waysNow x_houses x_people now home path)) 0 0 now between).1), .long (if tn p2 = 1 then (f_X9_danger_L39 x_people 0 1) else ((f_X9_danger_L39 x_people 0 1) * (f_X9_danger_L39 x_people 0 1))), .int (bI p3)]) (rest := []) (c_X9_part g w19 ((f_X9_danger_L85 x_houses x_people now begun home path kin p1 p2 (tn (f_X9_waysNow x_houses x_people now home path)) 0 0 now between).1) (if tn p2 = 1 then (f_X9_danger_L39 x_people 0 1) else ((f_X9_danger_L39 x_people 0 1) * (f_X9_danger_L39 x_people 0 1))) p3 (hl_204_hend c2 c3) (hl_204_hnz c2 c3)) rfl rfl (Nat.le_of_ble_eq_true rfl) ⟨by decide, by decide, by decide, by decide⟩ (fun r w9 hq => ?_)
        obtain ⟨rfl, rfl⟩ := hq
        show V g X 12 w19 0 0 207 [(0, .ref (B 0)), (1, .int p1), (2, .int p2), (3, .int (bI p3)), (4, .long (f_X9_danger_L39 x_people 0 1)), (6, .long ((f_X9_danger_L85 x_houses x_people now begun home path kin p1 p2 (tn (f_X9_waysNow x_houses x_people now home path)) 0 0 now between).1)), (8, .int (nI (tn (f_X9_waysNow x_houses x_people now home path))))] [.long (f_X9_part ((f_X9_danger_L85 x_houses x_people now begun home path kin p1 p2 (tn (f_X9_waysNow x_houses x_people now home path)) 0 0 now between).1) (if tn p2 = 1 then (f_X9_danger_L39 x_people 0 1) else ((f_X9_danger_L39 x_people 0 1) * (f_X9_danger_L39 x_people 0 1))) p3)]
        have hf : (f_X9_danger x_houses x_people now begun home path kin between p1 p2 p3) = (f_X9_part ((f_X9_danger_L85 x_houses x_people now begun home path kin p1 p2 (tn (f_X9_waysNow x_houses x_people now home path)) 0 0 now between).1) (if tn p2 = 1 then (f_X9_danger_L39 x_people 0 1) else ((f_X9_danger_L39 x_people 0 1) * (f_X9_danger_L39 x_people 0 1))) p3, 0, (f_X9_copies (f_X9_copies now begun) ((f_X9_danger_L85 x_houses x_people now begun home path kin p1 p2 (tn (f_X9_waysNow x_houses x_people now home path)) 0 0 now between).2.1)), (f_X9_copies now begun), (f_X9_danger_L85 x_houses x_people now begun home path kin p1 p2 (tn (f_X9_waysNow x_houses x_people now home path)) 0 0 now between).2.2) := by first | (simp only [f_X9_danger, if_neg c2, if_pos c3]; done) | rfl | (simp only [f_X9_danger, if_neg c2, if_pos c3]; rfl)
        refine vv_lret hC hR rfl dX9_danger_207 (by omega) (by omega) ?_
        rw [hf]
        try dsimp only
        exact ⟨rfl, h_m, h_now, h_begun, h_between, hE⟩
      refine vv_icmp_ne hC 198 dX9_danger_190 (by decide) (fun c20 => ?_) (fun c20 => ?_)
      · have c20 : ¬ (tn p2 = 1) := fun z => c20 ((nI_eq_ (a := tn p2) (b := 1) (by omega) (by omega)).mpr z)
        refine vv_lload hC 4 dX9_danger_198 rfl ?_
        refine vv_lload hC 4 dX9_danger_200 rfl ?_
        refine vv_lmul hC dX9_danger_202 ?_
        have hz := hJ21
        try simp only [if_neg c20] at hz
        first | exact hz | (simp only [if_neg c20]; exact hz)
      · have c20 : tn p2 = 1 := (nI_eq_ (a := tn p2) (b := 1) (by omega) (by omega)).mp c20
        refine vv_lload hC 4 dX9_danger_193 rfl ?_
        refine vv_goto hC 203 dX9_danger_195 (by decide) ?_
        have hz := hJ21
        try simp only [if_pos c20] at hz
        first | exact hz | (simp only [if_pos c20]; exact hz)
    · have c3 : ¬ (f_X9_in p2.toInt64 1 2 = true) := bI_f c3
      refine vv_ldc2 (v := (-2)) hC lk_l_X9_257 dX9_danger_29 ?_
      have hf : (f_X9_danger x_houses x_people now begun home path kin between p1 p2 p3) = ((-2), 0, now, begun, between) := by first | (simp only [f_X9_danger, if_neg c2, if_neg c3]; done) | rfl | (simp only [f_X9_danger, if_neg c2, if_neg c3]; rfl)
      refine vv_lret hC hR rfl dX9_danger_32 (by omega) (by omega) ?_
      rw [hf]
      try dsimp only
      exact ⟨rfl, h_m, h_now, h_begun, h_between, hE⟩
  · have c2 : f_X9_noOne x_people p1 = true := bI_t c2
    refine vv_ldc2 (v := (-1)) hC lk_l_X9_237 dX9_danger_13 ?_
    have hf : (f_X9_danger x_houses x_people now begun home path kin between p1 p2 p3) = ((-1), 0, now, begun, between) := by first | (simp only [f_X9_danger, if_pos c2]; done) | rfl | (simp only [f_X9_danger, if_pos c2]; rfl)
    refine vv_lret hC hR rfl dX9_danger_16 (by omega) (by omega) ?_
    rw [hf]
    try dsimp only
    exact ⟨rfl, h_m, h_now, h_begun, h_between, hE⟩
def f_X9_years_x1 (x_houses : Nat) (x_people : Nat) (home : Nat → Int32) (path : Nat → Int32) (kin : Nat → Int32) (k40 : Nat) (y_x_drawn_40 : Int64) (y_now_40 : Nat → Int32) : Nat → Int32 := (if f_X9_mayOf x_houses y_now_40 home path k40 = 0 then y_now_40 else (f_X9_visits x_people y_now_40 home kin path k40 (tn (f_X9_placeOf (f_X9_mayOf x_houses y_now_40 home path k40) (nI (tn (((lushr ((y_x_drawn_40 * 6364136223846793005) + 1442695040888963407) 33) - (lushr ((y_x_drawn_40 * 6364136223846793005) + 1442695040888963407) 33) / (f_X9_bits (f_X9_mayOf x_houses y_now_40 home path k40)).toInt64 * (f_X9_bits (f_X9_mayOf x_houses y_now_40 home path k40)).toInt64).toInt32)))))).2)
def f_X9_years_L40 (x_houses : Nat) (x_people : Nat) (home : Nat → Int32) (path : Nat → Int32) (kin : Nat → Int32) : Nat → Nat → Int64 → (Nat → Int32) → Int64 × (Nat → Int32)
  | 0, k40, y_x_drawn_40, y_now_40 => (y_x_drawn_40, y_now_40)
  | r40 + 1, k40, y_x_drawn_40, y_now_40 => f_X9_years_L40 x_houses x_people home path kin r40 (k40 + 1) (if f_X9_mayOf x_houses y_now_40 home path k40 = 0 then y_x_drawn_40 else ((y_x_drawn_40 * 6364136223846793005) + 1442695040888963407)) (f_X9_years_x1 x_houses x_people home path kin k40 y_x_drawn_40 y_now_40)
def f_X9_years_L33 (x_houses : Nat) (x_people : Nat) (home : Nat → Int32) (path : Nat → Int32) (kin : Nat → Int32) : Nat → Nat → Int64 → (Nat → Int32) → Int64 × (Nat → Int32)
  | 0, k33, y_x_drawn_33, y_now_33 => (y_x_drawn_33, y_now_33)
  | r33 + 1, k33, y_x_drawn_33, y_now_33 => f_X9_years_L33 x_houses x_people home path kin r33 (k33 + 1) ((f_X9_years_L40 x_houses x_people home path kin x_people 0 y_x_drawn_33 y_now_33).1) ((f_X9_dawns x_people ((f_X9_years_L40 x_houses x_people home path kin x_people 0 y_x_drawn_33 y_now_33).2)).2)
def f_X9_years (x_houses : Nat) (x_people : Nat) (x_drawn : Int64) (now : Nat → Int32) (begun : Nat → Int32) (home : Nat → Int32) (path : Nat → Int32) (kin : Nat → Int32) (p1 : Int32) : Int32 × Int32 × Int64 × (Nat → Int32) × (Nat → Int32) := (if f_X9_in p1.toInt64 1 30 = true then (f_X9_wolves x_people ((f_X9_years_L33 x_houses x_people home path kin (tn p1) 0 x_drawn now).2), 0, (f_X9_years_L33 x_houses x_people home path kin (tn p1) 0 x_drawn now).1, (f_X9_copies (f_X9_copies now begun) ((f_X9_years_L33 x_houses x_people home path kin (tn p1) 0 x_drawn now).2)), (f_X9_copies now begun)) else ((-2), 0, x_drawn, now, begun))
set_option maxHeartbeats 4000000 in
set_option maxRecDepth 100000 in
theorem c_X9_years (g : GT) (w0 : Wd) (B : Nat → Nat) (hB : ∀ i j, i < 60 → j < 60 → B i = B j → i = j) (x_thrown : Int32) (x_houses : Nat) (x_people : Nat) (x_paths : Nat) (x_acts : Nat) (x_size : Nat) (x_at : Nat) (x_readHouses : Nat) (x_readPeople : Nat) (x_readPaths : Nat) (x_sights : Nat) (x_drawn : Int64) (now : Nat → Int32) (begun : Nat → Int32) (home : Nat → Int32) (path : Nat → Int32) (kin : Nat → Int32) (p1 : Int32) (hxp : x_people ≤ 6) (hxh : x_houses ≤ 4) (hom : ∀ q, q < 6 → home q = nI (tn (home q)) ∧ tn (home q) < 4) (h_m : w0 (B 0) = some (.inr (9, cM B (x_thrown, x_houses, x_people, x_paths, x_acts, x_size, x_at, x_readHouses, x_readPeople, x_readPaths, x_sights, x_drawn)))) (h_now : w0 (B 7) = some (.inl (g.2.2.1 0, 43, .inl now))) (h_begun : w0 (B 28) = some (.inl (g.2.2.1 0, 43, .inl begun))) (h_home : w0 (B 5) = some (.inl (g.2.2.1 0, 6, .inl home))) (h_path : w0 (B 4) = some (.inl (g.2.2.1 0, 16, .inl path))) (h_kin : w0 (B 6) = some (.inl (g.2.2.1 0, 6, .inl kin))) : CT g yX9_years cX9_years 6 (some .int) 4 89 0 0 w0 [.ref (B 0), .int p1] (fun r w2 => r = some (.int ((f_X9_years x_houses x_people x_drawn now begun home path kin p1).1)) ∧ w2 (B 0) = some (.inr (9, cM B ((f_X9_years x_houses x_people x_drawn now begun home path kin p1).2.1, x_houses, x_people, x_paths, x_acts, x_size, x_at, x_readHouses, x_readPeople, x_readPaths, x_sights, (f_X9_years x_houses x_people x_drawn now begun home path kin p1).2.2.1))) ∧ w2 (B 7) = some (.inl (g.2.2.1 0, 43, .inl ((f_X9_years x_houses x_people x_drawn now begun home path kin p1).2.2.2.1))) ∧ w2 (B 28) = some (.inl (g.2.2.1 0, 43, .inl ((f_X9_years x_houses x_people x_drawn now begun home path kin p1).2.2.2.2))) ∧ wE (fun q => q = (B 0) ∨ q = (B 7) ∨ q = (B 28)) w0 w2) := by
  refine CT.of (own := RX9) (by decide +kernel) rfl (Nat.le_of_ble_eq_true rfl) (fun X hC hR hI => ?_)
  show V g X 6 w0 0 0 0 [(0, .ref (B 0)), (1, .int p1)] []
  have hE : wE (fun q => q = (B 0) ∨ q = (B 7) ∨ q = (B 28)) w0 w0 := wE.refl
  refine vv_aload_n hC 0 dX9_years_0 rfl rfl ?_
  refine vv_iconst (v := 0) hC dX9_years_1 (by decide) ?_
  refine vv_put hC fp_X9_69 dX9_years_2 h_m rfl rfl (Nat.le_of_ble_eq_true rfl) (fun w1 t1 hs => ?_)
  have t1 : w1 (B 0) = some (.inr (9, cM B (0, x_houses, x_people, x_paths, x_acts, x_size, x_at, x_readHouses, x_readPeople, x_readPaths, x_sights, x_drawn))) := t1.trans (congrArg (fun z => some (Sum.inr (9, z))) (eM_thrown _ _ _ _ _ _ _ _ _ _ _ _ _ _))
  have h_now := hs _ _ (fw_ao h_now h_m) h_now
  have h_begun := hs _ _ (fw_ao h_begun h_m) h_begun
  have h_home := hs _ _ (fw_ao h_home h_m) h_home
  have h_path := hs _ _ (fw_ao h_path h_m) h_path
  have h_kin := hs _ _ (fw_ao h_kin h_m) h_kin
  have h_m := t1
  have hE := hE.trans (hs.mono (fun _ z => (Or.inl z)))
  refine vv_iload_n hC 1 dX9_years_5 rfl rfl ?_
  refine vv_i2l hC dX9_years_6 ?_
  refine vv_lconst (v := 1) hC dX9_years_7 (by decide) ?_
  refine vv_ldc2 (v := (30)) hC lk_l_X9_277 dX9_years_8 ?_
  refine vv_callS hC dX9_years_11 md_X9_in lk_m_X9_76 lk_t_X9_in (As := [.long p1.toInt64, .long 1, .long 30]) (rest := []) (c_X9_in g w1 p1.toInt64 1 30) rfl rfl (Nat.le_of_ble_eq_true rfl) ⟨by decide, by decide, by decide, by decide⟩ (fun r w9 hq => ?_)
  obtain ⟨rfl, rfl⟩ := hq
  show V g X 6 w1 0 0 14 [(0, .ref (B 0)), (1, .int p1)] [.int (bI (f_X9_in p1.toInt64 1 30))]
  refine vv_if_ne hC 20 dX9_years_14 (by decide) (fun c2 => ?_) (fun c2 => ?_)
  · have c2 : f_X9_in p1.toInt64 1 30 = true := bI_t c2
    have bc2 := inC_b (lo := 1) (hi := 30) (by decide) (by decide) (by decide) c2
    refine vv_aload_n hC 0 dX9_years_20 rfl rfl ?_
    refine vv_get (v := .ref (B 7)) hC fl_X9_19 dX9_years_21 h_m rfl ?_
    refine vv_aload_n hC 0 dX9_years_24 rfl rfl ?_
    refine vv_get (v := .ref (B 28)) hC fl_X9_63 dX9_years_25 h_m rfl ?_
    refine vv_callS hC dX9_years_28 md_X9_copies lk_m_X9_259 lk_t_X9_copies (As := [.ref (B 7), .ref (B 28)]) (rest := []) (c_X9_copies g w1 (B 7) (B 28) now begun h_now h_begun (fw_inj hB (by decide) (by decide) (by decide))) rfl rfl (Nat.le_of_ble_eq_true rfl) ⟨by decide, by decide, by decide, by decide⟩ (fun r w9 hq => ?_)
    obtain ⟨rfl, t1, hs⟩ := hq
    obtain ⟨w3, rfl⟩ : ∃ z, z = w9 := ⟨_, rfl⟩
    have h_m := hs _ _ (fw_oa h_m h_begun) h_m
    have h_now := hs _ _ (fw_inj hB (by decide) (by decide) (by decide)) h_now
    have h_home := hs _ _ (fw_inj hB (by decide) (by decide) (by decide)) h_home
    have h_path := hs _ _ (fw_inj hB (by decide) (by decide) (by decide)) h_path
    have h_kin := hs _ _ (fw_inj hB (by decide) (by decide) (by decide)) h_kin
    have h_begun := t1
    have hE := hE.trans (hs.mono (fun _ z => (Or.inr (Or.inr z))))
    show V g X 6 w3 0 0 31 [(0, .ref (B 0)), (1, .int p1)] []
    refine vv_iconst (v := 0) hC dX9_years_31 (by decide) ?_
    refine vv_istore_n (lv2 := [(2, .int 0), (0, .ref (B 0)), (1, .int p1)]) hC dX9_years_32 rfl (by decide) rfl ?_
    have hL16 : ∀ (r33 k33 : Nat) (y_x_drawn_33 : Int64) (y_now_33 : Nat → Int32) (w4 : Wd) (out : Int64 × (Nat → Int32)), k33 + r33 = tn p1 → out = f_X9_years_L33 x_houses x_people home path kin r33 k33 y_x_drawn_33 y_now_33 → w4 (B 0) = some (.inr (9, cM B (0, x_houses, x_people, x_paths, x_acts, x_size, x_at, x_readHouses, x_readPeople, x_readPaths, x_sights, y_x_drawn_33))) → w4 (B 7) = some (.inl (g.2.2.1 0, 43, .inl y_now_33)) → w4 (B 28) = some (.inl (g.2.2.1 0, 43, .inl (f_X9_copies now begun))) → w4 (B 5) = some (.inl (g.2.2.1 0, 6, .inl home)) → w4 (B 4) = some (.inl (g.2.2.1 0, 16, .inl path)) → w4 (B 6) = some (.inl (g.2.2.1 0, 6, .inl kin)) → wE (fun q => q = (B 0) ∨ q = (B 7) ∨ q = (B 28)) w0 w4 → (∀ w15 : Wd, w15 (B 0) = some (.inr (9, cM B (0, x_houses, x_people, x_paths, x_acts, x_size, x_at, x_readHouses, x_readPeople, x_readPaths, x_sights, out.1))) → w15 (B 7) = some (.inl (g.2.2.1 0, 43, .inl out.2)) → w15 (B 28) = some (.inl (g.2.2.1 0, 43, .inl (f_X9_copies now begun))) → w15 (B 5) = some (.inl (g.2.2.1 0, 6, .inl home)) → w15 (B 4) = some (.inl (g.2.2.1 0, 16, .inl path)) → w15 (B 6) = some (.inl (g.2.2.1 0, 6, .inl kin)) → wE (fun q => q = (B 0) ∨ q = (B 7) ∨ q = (B 28)) w0 w15 → V g X 6 w15 0 0 120 [(0, .ref (B 0)), (1, .int p1)] []) → V g X 6 w4 0 0 33 [(0, .ref (B 0)), (1, .int p1), (2, .int (nI k33))] [] := by
      intro r33
      induction r33 with
      | zero =>
        intro k33 y_x_drawn_33 y_now_33 w4 out hb ho h_m h_now h_begun h_home h_path h_kin hE hk
        refine vv_iload_n hC 2 dX9_years_33 rfl rfl ?_
        refine vv_iload_n hC 1 dX9_years_34 rfl rfl ?_
        refine vv_topi (nI (tn p1)) (inC_e (lo := 1) (hi := 30) (by decide) (by decide) (by decide) c2) ?_
        refine vv_icmp_ge hC 120 dX9_years_35 (by decide) (fun c => ?_) (fun c => False.elim (c ((nI_le_ (a := tn p1) (b := k33) (by omega) (by omega)).mpr (by omega))))
        refine vv_lv [0, 1] rfl ?_
        have ho := ho.trans (by first | (simp only [f_X9_years_L33]; done) | rfl | (simp only [f_X9_years_L33]; rfl) : _ = (y_x_drawn_33, y_now_33))
        subst ho
        exact hk w4 h_m h_now h_begun h_home h_path h_kin hE
      | succ r33 ih =>
        intro k33 y_x_drawn_33 y_now_33 w4 out hb ho h_m h_now h_begun h_home h_path h_kin hE hk
        refine vv_iload_n hC 2 dX9_years_33 rfl rfl ?_
        refine vv_iload_n hC 1 dX9_years_34 rfl rfl ?_
        refine vv_topi (nI (tn p1)) (inC_e (lo := 1) (hi := 30) (by decide) (by decide) (by decide) c2) ?_
        refine vv_icmp_ge hC 120 dX9_years_35 (by decide) (fun c => absurd ((nI_le_ (a := tn p1) (b := k33) (by omega) (by omega)).mp c) (by first | omega | decide)) (fun c => ?_)
        refine vv_iconst (v := 0) hC dX9_years_38 (by decide) ?_
        refine vv_istore_n (lv2 := [(3, .int 0), (0, .ref (B 0)), (1, .int p1), (2, .int (nI k33))]) hC dX9_years_39 rfl (by decide) rfl ?_
        have hL13 : ∀ (r40 k40 : Nat) (y_x_drawn_40 : Int64) (y_now_40 : Nat → Int32) (w5 : Wd) (out : Int64 × (Nat → Int32)), k40 + r40 = x_people → out = f_X9_years_L40 x_houses x_people home path kin r40 k40 y_x_drawn_40 y_now_40 → w5 (B 0) = some (.inr (9, cM B (0, x_houses, x_people, x_paths, x_acts, x_size, x_at, x_readHouses, x_readPeople, x_readPaths, x_sights, y_x_drawn_40))) → w5 (B 7) = some (.inl (g.2.2.1 0, 43, .inl y_now_40)) → w5 (B 28) = some (.inl (g.2.2.1 0, 43, .inl (f_X9_copies now begun))) → w5 (B 5) = some (.inl (g.2.2.1 0, 6, .inl home)) → w5 (B 4) = some (.inl (g.2.2.1 0, 16, .inl path)) → w5 (B 6) = some (.inl (g.2.2.1 0, 6, .inl kin)) → wE (fun q => q = (B 0) ∨ q = (B 7) ∨ q = (B 28)) w0 w5 → (∀ w12 : Wd, w12 (B 0) = some (.inr (9, cM B (0, x_houses, x_people, x_paths, x_acts, x_size, x_at, x_readHouses, x_readPeople, x_readPaths, x_sights, out.1))) → w12 (B 7) = some (.inl (g.2.2.1 0, 43, .inl out.2)) → w12 (B 28) = some (.inl (g.2.2.1 0, 43, .inl (f_X9_copies now begun))) → w12 (B 5) = some (.inl (g.2.2.1 0, 6, .inl home)) → w12 (B 4) = some (.inl (g.2.2.1 0, 16, .inl path)) → w12 (B 6) = some (.inl (g.2.2.1 0, 6, .inl kin)) → wE (fun q => q = (B 0) ∨ q = (B 7) ∨ q = (B 28)) w0 w12 → V g X 6 w12 0 0 109 [(0, .ref (B 0)), (1, .int p1), (2, .int (nI k33))] []) → V g X 6 w5 0 0 40 [(0, .ref (B 0)), (1, .int p1), (2, .int (nI k33)), (3, .int (nI k40))] [] := by
          intro r40
          induction r40 with
          | zero =>
            intro k40 y_x_drawn_40 y_now_40 w5 out hb ho h_m h_now h_begun h_home h_path h_kin hE hk
            refine vv_iload_n hC 3 dX9_years_40 rfl rfl ?_
            refine vv_aload_n hC 0 dX9_years_41 rfl rfl ?_
            refine vv_get (v := .int (nI x_people)) hC fl_X9_80 dX9_years_42 h_m rfl ?_
            refine vv_icmp_ge hC 109 dX9_years_45 (by decide) (fun c => ?_) (fun c => False.elim (c ((nI_le_ (a := x_people) (b := k40) (by omega) (by omega)).mpr (by omega))))
            refine vv_lv [0, 1, 2] rfl ?_
            have ho := ho.trans (by first | (simp only [f_X9_years_L40]; done) | rfl | (simp only [f_X9_years_L40]; rfl) : _ = (y_x_drawn_40, y_now_40))
            subst ho
            exact hk w5 h_m h_now h_begun h_home h_path h_kin hE
          | succ r40 ih =>
            intro k40 y_x_drawn_40 y_now_40 w5 out hb ho h_m h_now h_begun h_home h_path h_kin hE hk
            refine vv_iload_n hC 3 dX9_years_40 rfl rfl ?_
            refine vv_aload_n hC 0 dX9_years_41 rfl rfl ?_
            refine vv_get (v := .int (nI x_people)) hC fl_X9_80 dX9_years_42 h_m rfl ?_
            refine vv_icmp_ge hC 109 dX9_years_45 (by decide) (fun c => absurd ((nI_le_ (a := x_people) (b := k40) (by omega) (by omega)).mp c) (by first | omega | decide)) (fun c => ?_)
            refine vv_aload_n hC 0 dX9_years_48 rfl rfl ?_
            refine vv_iload_n hC 3 dX9_years_49 rfl rfl ?_
            refine vv_callV hC dX9_years_50 md_X9_mayOf lk_m_X9_178 lk_i_X9_mayOf lk_s_X9_mayOf h_m rfl (As := [.int (nI k40)]) (rest := []) (c_X9_mayOf g w5 B hB 0 x_houses x_people x_paths x_acts x_size x_at x_readHouses x_readPeople x_readPaths x_sights y_x_drawn_40 y_now_40 home path k40 (by omega) (by omega) (hom) h_m h_now h_home h_path) rfl rfl (Nat.le_of_ble_eq_true rfl) ⟨by decide, by decide, by decide, by decide⟩ (fun r w9 hq => ?_)
            obtain ⟨rfl, rfl⟩ := hq
            show V g X 6 w5 0 0 53 [(0, .ref (B 0)), (1, .int p1), (2, .int (nI k33)), (3, .int (nI k40))] [.int (f_X9_mayOf x_houses y_now_40 home path k40)]
            refine vv_istore (lv2 := [(4, .int (f_X9_mayOf x_houses y_now_40 home path k40)), (0, .ref (B 0)), (1, .int p1), (2, .int (nI k33)), (3, .int (nI k40))]) hC dX9_years_53 (by decide) rfl ?_
            refine vv_iload hC 0 dX9_years_55 rfl ?_
            have hJ7 : ∀ w11 : Wd, w11 (B 0) = some (.inr (9, cM B (0, x_houses, x_people, x_paths, x_acts, x_size, x_at, x_readHouses, x_readPeople, x_readPaths, x_sights, (if f_X9_mayOf x_houses y_now_40 home path k40 = 0 then y_x_drawn_40 else ((y_x_drawn_40 * 6364136223846793005) + 1442695040888963407))))) → w11 (B 7) = some (.inl (g.2.2.1 0, 43, .inl (f_X9_years_x1 x_houses x_people home path kin k40 y_x_drawn_40 y_now_40))) → w11 (B 28) = some (.inl (g.2.2.1 0, 43, .inl (f_X9_copies now begun))) → w11 (B 5) = some (.inl (g.2.2.1 0, 6, .inl home)) → w11 (B 4) = some (.inl (g.2.2.1 0, 16, .inl path)) → w11 (B 6) = some (.inl (g.2.2.1 0, 6, .inl kin)) → wE (fun q => q = (B 0) ∨ q = (B 7) ∨ q = (B 28)) w0 w11 → V g X 6 w11 0 0 103 [(0, .ref (B 0)), (1, .int p1), (2, .int (nI k33)), (3, .int (nI k40)), (4, .int (f_X9_mayOf x_houses y_now_40 home path k40))] [] := by
              intro w11 h_m h_now h_begun h_home h_path h_kin hE
              refine vv_iinc (lv2 := [(3, .int (nI (k40 + 1))), (0, .ref (B 0)), (1, .int p1), (2, .int (nI k33)), (4, .int (f_X9_mayOf x_houses y_now_40 home path k40))]) hC 3 dX9_years_103 rfl (nI_add k40 1) (by decide) rfl ?_
              refine vv_goto hC 40 dX9_years_106 (by decide) ?_
              refine vv_lv [1, 2, 3, 0] rfl ?_
              exact ih (k40 + 1) (if f_X9_mayOf x_houses y_now_40 home path k40 = 0 then y_x_drawn_40 else ((y_x_drawn_40 * 6364136223846793005) + 1442695040888963407)) (f_X9_years_x1 x_houses x_people home path kin k40 y_x_drawn_40 y_now_40) w11 out (by omega) (ho.trans (by first | (simp only [f_X9_years_L40]; done) | rfl | (simp only [f_X9_years_L40]; rfl))) h_m h_now h_begun h_home h_path h_kin hE hk
            refine vv_if_eq hC 103 dX9_years_57 (by decide) (fun c6 => ?_) (fun c6 => ?_)
            · have c6 : f_X9_mayOf x_houses y_now_40 home path k40 = 0 := c6
              refine vv_lv [1, 2, 3, 4, 0] rfl ?_
              have hz := hJ7 w5
              try simp only [f_X9_years_x1, if_pos c6] at hz
              first | exact hz h_m h_now h_begun h_home h_path h_kin hE | (simp only [f_X9_years_x1, if_pos c6]; exact hz h_m h_now h_begun h_home h_path h_kin hE)
            · have c6 : ¬ (f_X9_mayOf x_houses y_now_40 home path k40 = 0) := c6
              refine vv_aload_n hC 1 dX9_years_60 rfl rfl ?_
              refine vv_aload_n hC 1 dX9_years_61 rfl rfl ?_
              refine vv_get (v := .long y_x_drawn_40) hC fl_X9_273 dX9_years_62 h_m rfl ?_
              refine vv_ldc2 (v := (6364136223846793005)) hC lk_l_X9_279 dX9_years_65 ?_
              refine vv_lmul hC dX9_years_68 ?_
              refine vv_ldc2 (v := (1442695040888963407)) hC lk_l_X9_281 dX9_years_69 ?_
              refine vv_ladd hC dX9_years_72 ?_
              refine vv_put hC fp_X9_273 dX9_years_73 h_m rfl rfl (Nat.le_of_ble_eq_true rfl) (fun w8 t1 hs => ?_)
              have t1 : w8 (B 0) = some (.inr (9, cM B (0, x_houses, x_people, x_paths, x_acts, x_size, x_at, x_readHouses, x_readPeople, x_readPaths, x_sights, ((y_x_drawn_40 * 6364136223846793005) + 1442695040888963407)))) := t1.trans (congrArg (fun z => some (Sum.inr (9, z))) (eM_drawn _ _ _ _ _ _ _ _ _ _ _ _ _ _))
              have h_now := hs _ _ (fw_ao h_now h_m) h_now
              have h_begun := hs _ _ (fw_ao h_begun h_m) h_begun
              have h_home := hs _ _ (fw_ao h_home h_m) h_home
              have h_path := hs _ _ (fw_ao h_path h_m) h_path
              have h_kin := hs _ _ (fw_ao h_kin h_m) h_kin
              have h_m := t1
              have hE := hE.trans (hs.mono (fun _ z => (Or.inl z)))
              refine vv_aload_n hC 1 dX9_years_76 rfl rfl ?_
              refine vv_iload_n hC 4 dX9_years_77 rfl rfl ?_
              refine vv_iload hC 0 dX9_years_78 rfl ?_
              refine vv_aload_n hC 1 dX9_years_80 rfl rfl ?_
              refine vv_get (v := .long ((y_x_drawn_40 * 6364136223846793005) + 1442695040888963407)) hC fl_X9_273 dX9_years_81 h_m rfl ?_
              refine vv_bipush (v := (33)) hC dX9_years_84 (by decide) ?_
              refine vv_lushr hC dX9_years_86 ?_
              refine vv_iload hC 0 dX9_years_87 rfl ?_
              refine vv_callS hC dX9_years_89 md_X9_bits lk_m_X9_251 lk_t_X9_bits (As := [.int (f_X9_mayOf x_houses y_now_40 home path k40)]) (rest := [.long (lushr ((y_x_drawn_40 * 6364136223846793005) + 1442695040888963407) 33), .int (f_X9_mayOf x_houses y_now_40 home path k40), .int (nI k40), .ref (B 0)]) (c_X9_bits g w8 (f_X9_mayOf x_houses y_now_40 home path k40)) rfl rfl (Nat.le_of_ble_eq_true rfl) ⟨by decide, by decide, by decide, by decide⟩ (fun r w9 hq => ?_)
              obtain ⟨rfl, rfl⟩ := hq
              show V g X 6 w8 0 0 92 [(4, .int (f_X9_mayOf x_houses y_now_40 home path k40)), (0, .ref (B 0)), (1, .int p1), (2, .int (nI k33)), (3, .int (nI k40))] [.int (f_X9_bits (f_X9_mayOf x_houses y_now_40 home path k40)), .long (lushr ((y_x_drawn_40 * 6364136223846793005) + 1442695040888963407) 33), .int (f_X9_mayOf x_houses y_now_40 home path k40), .int (nI k40), .ref (B 0)]
              refine vv_i2l hC dX9_years_92 ?_
              refine vv_lrem hC dX9_years_93 (bits_ne (mayOf_S hxh) c6) ?_
              refine vv_l2i hC dX9_years_94 ?_
              refine vv_topi (nI (tn (((lushr ((y_x_drawn_40 * 6364136223846793005) + 1442695040888963407) 33) - (lushr ((y_x_drawn_40 * 6364136223846793005) + 1442695040888963407) 33) / (f_X9_bits (f_X9_mayOf x_houses y_now_40 home path k40)).toInt64 * (f_X9_bits (f_X9_mayOf x_houses y_now_40 home path k40)).toInt64).toInt32))) ((yr_e (mayOf_S hxh) c6 _).1) ?_
              refine vv_callS hC dX9_years_95 md_X9_placeOf lk_m_X9_254 lk_t_X9_placeOf (As := [.int (f_X9_mayOf x_houses y_now_40 home path k40), .int (nI (tn (((lushr ((y_x_drawn_40 * 6364136223846793005) + 1442695040888963407) 33) - (lushr ((y_x_drawn_40 * 6364136223846793005) + 1442695040888963407) 33) / (f_X9_bits (f_X9_mayOf x_houses y_now_40 home path k40)).toInt64 * (f_X9_bits (f_X9_mayOf x_houses y_now_40 home path k40)).toInt64).toInt32)))]) (rest := [.int (nI k40), .ref (B 0)]) (c_X9_placeOf g w8 (f_X9_mayOf x_houses y_now_40 home path k40) (nI (tn (((lushr ((y_x_drawn_40 * 6364136223846793005) + 1442695040888963407) 33) - (lushr ((y_x_drawn_40 * 6364136223846793005) + 1442695040888963407) 33) / (f_X9_bits (f_X9_mayOf x_houses y_now_40 home path k40)).toInt64 * (f_X9_bits (f_X9_mayOf x_houses y_now_40 home path k40)).toInt64).toInt32))) (placeOf_E (mayOf_S hxh) (yr_e (mayOf_S hxh) c6 _).2)) rfl rfl (Nat.le_of_ble_eq_true rfl) ⟨by decide, by decide, by decide, by decide⟩ (fun r w9 hq => ?_)
              obtain ⟨rfl, rfl⟩ := hq
              show V g X 6 w8 0 0 98 [(4, .int (f_X9_mayOf x_houses y_now_40 home path k40)), (0, .ref (B 0)), (1, .int p1), (2, .int (nI k33)), (3, .int (nI k40))] [.int (f_X9_placeOf (f_X9_mayOf x_houses y_now_40 home path k40) (nI (tn (((lushr ((y_x_drawn_40 * 6364136223846793005) + 1442695040888963407) 33) - (lushr ((y_x_drawn_40 * 6364136223846793005) + 1442695040888963407) 33) / (f_X9_bits (f_X9_mayOf x_houses y_now_40 home path k40)).toInt64 * (f_X9_bits (f_X9_mayOf x_houses y_now_40 home path k40)).toInt64).toInt32)))), .int (nI k40), .ref (B 0)]
              have bz9 := (show tn (f_X9_placeOf (f_X9_mayOf x_houses y_now_40 home path k40) (nI (tn (((lushr ((y_x_drawn_40 * 6364136223846793005) + 1442695040888963407) 33) - (lushr ((y_x_drawn_40 * 6364136223846793005) + 1442695040888963407) 33) / (f_X9_bits (f_X9_mayOf x_houses y_now_40 home path k40)).toInt64 * (f_X9_bits (f_X9_mayOf x_houses y_now_40 home path k40)).toInt64).toInt32)))) < 4 from (placeOf_S (mayOf_S hxh) (yr_e (mayOf_S hxh) c6 _).2).2)
              refine vv_topi (nI (tn (f_X9_placeOf (f_X9_mayOf x_houses y_now_40 home path k40) (nI (tn (((lushr ((y_x_drawn_40 * 6364136223846793005) + 1442695040888963407) 33) - (lushr ((y_x_drawn_40 * 6364136223846793005) + 1442695040888963407) 33) / (f_X9_bits (f_X9_mayOf x_houses y_now_40 home path k40)).toInt64 * (f_X9_bits (f_X9_mayOf x_houses y_now_40 home path k40)).toInt64).toInt32)))))) ((placeOf_S (mayOf_S hxh) (yr_e (mayOf_S hxh) c6 _).2).1) ?_
              refine vv_callV hC dX9_years_98 md_X9_visits lk_m_X9_187 lk_i_X9_visits lk_s_X9_visits h_m rfl (As := [.int (nI k40), .int (nI (tn (f_X9_placeOf (f_X9_mayOf x_houses y_now_40 home path k40) (nI (tn (((lushr ((y_x_drawn_40 * 6364136223846793005) + 1442695040888963407) 33) - (lushr ((y_x_drawn_40 * 6364136223846793005) + 1442695040888963407) 33) / (f_X9_bits (f_X9_mayOf x_houses y_now_40 home path k40)).toInt64 * (f_X9_bits (f_X9_mayOf x_houses y_now_40 home path k40)).toInt64).toInt32))))))]) (rest := []) (c_X9_visits g w8 B hB 0 x_houses x_people x_paths x_acts x_size x_at x_readHouses x_readPeople x_readPaths x_sights ((y_x_drawn_40 * 6364136223846793005) + 1442695040888963407) y_now_40 home kin path k40 (tn (f_X9_placeOf (f_X9_mayOf x_houses y_now_40 home path k40) (nI (tn (((lushr ((y_x_drawn_40 * 6364136223846793005) + 1442695040888963407) 33) - (lushr ((y_x_drawn_40 * 6364136223846793005) + 1442695040888963407) 33) / (f_X9_bits (f_X9_mayOf x_houses y_now_40 home path k40)).toInt64 * (f_X9_bits (f_X9_mayOf x_houses y_now_40 home path k40)).toInt64).toInt32))))) (by omega) (by omega) (by omega) (hom) h_m h_now h_home h_kin h_path) rfl rfl (Nat.le_of_ble_eq_true rfl) ⟨by decide, by decide, by decide, by decide⟩ (fun r w9 hq => ?_)
              obtain ⟨rfl, t1, hs⟩ := hq
              obtain ⟨w10, rfl⟩ : ∃ z, z = w9 := ⟨_, rfl⟩
              have h_m := hs _ _ (fw_oa h_m h_now) h_m
              have h_begun := hs _ _ (fw_inj hB (by decide) (by decide) (by decide)) h_begun
              have h_home := hs _ _ (fw_inj hB (by decide) (by decide) (by decide)) h_home
              have h_path := hs _ _ (fw_inj hB (by decide) (by decide) (by decide)) h_path
              have h_kin := hs _ _ (fw_inj hB (by decide) (by decide) (by decide)) h_kin
              have h_now := t1
              have hE := hE.trans (hs.mono (fun _ z => (Or.inr (Or.inl z))))
              show V g X 6 w10 0 0 101 [(4, .int (f_X9_mayOf x_houses y_now_40 home path k40)), (0, .ref (B 0)), (1, .int p1), (2, .int (nI k33)), (3, .int (nI k40))] [.int ((f_X9_visits x_people y_now_40 home kin path k40 (tn (f_X9_placeOf (f_X9_mayOf x_houses y_now_40 home path k40) (nI (tn (((lushr ((y_x_drawn_40 * 6364136223846793005) + 1442695040888963407) 33) - (lushr ((y_x_drawn_40 * 6364136223846793005) + 1442695040888963407) 33) / (f_X9_bits (f_X9_mayOf x_houses y_now_40 home path k40)).toInt64 * (f_X9_bits (f_X9_mayOf x_houses y_now_40 home path k40)).toInt64).toInt32)))))).1)]
              refine vv_istore (lv2 := [(5, .int ((f_X9_visits x_people y_now_40 home kin path k40 (tn (f_X9_placeOf (f_X9_mayOf x_houses y_now_40 home path k40) (nI (tn (((lushr ((y_x_drawn_40 * 6364136223846793005) + 1442695040888963407) 33) - (lushr ((y_x_drawn_40 * 6364136223846793005) + 1442695040888963407) 33) / (f_X9_bits (f_X9_mayOf x_houses y_now_40 home path k40)).toInt64 * (f_X9_bits (f_X9_mayOf x_houses y_now_40 home path k40)).toInt64).toInt32)))))).1)), (4, .int (f_X9_mayOf x_houses y_now_40 home path k40)), (0, .ref (B 0)), (1, .int p1), (2, .int (nI k33)), (3, .int (nI k40))]) hC dX9_years_101 (by decide) rfl ?_
              refine vv_lv [2, 3, 4, 5, 1] rfl ?_
              have hz := hJ7 w10
              try simp only [f_X9_years_x1, if_neg c6] at hz
              first | exact hz h_m h_now h_begun h_home h_path h_kin hE | (simp only [f_X9_years_x1, if_neg c6]; exact hz h_m h_now h_begun h_home h_path h_kin hE)
        refine vv_lv [1, 2, 3, 0] rfl ?_
        refine hL13 x_people 0 y_x_drawn_33 y_now_33 w4 (f_X9_years_L40 x_houses x_people home path kin x_people 0 y_x_drawn_33 y_now_33) (by omega) rfl h_m h_now h_begun h_home h_path h_kin hE ?_
        intro w12 h_m h_now h_begun h_home h_path h_kin hE
        refine vv_aload_n hC 0 dX9_years_109 rfl rfl ?_
        refine vv_callV hC dX9_years_110 md_X9_dawns lk_m_X9_190 lk_i_X9_dawns lk_s_X9_dawns h_m rfl (As := []) (rest := []) (c_X9_dawns g w12 B hB 0 x_houses x_people x_paths x_acts x_size x_at x_readHouses x_readPeople x_readPaths x_sights ((f_X9_years_L40 x_houses x_people home path kin x_people 0 y_x_drawn_33 y_now_33).1) ((f_X9_years_L40 x_houses x_people home path kin x_people 0 y_x_drawn_33 y_now_33).2) (by omega) h_m h_now) rfl rfl (Nat.le_of_ble_eq_true rfl) ⟨by decide, by decide, by decide, by decide⟩ (fun r w9 hq => ?_)
        obtain ⟨rfl, t1, hs⟩ := hq
        obtain ⟨w14, rfl⟩ : ∃ z, z = w9 := ⟨_, rfl⟩
        have h_m := hs _ _ (fw_oa h_m h_now) h_m
        have h_begun := hs _ _ (fw_inj hB (by decide) (by decide) (by decide)) h_begun
        have h_home := hs _ _ (fw_inj hB (by decide) (by decide) (by decide)) h_home
        have h_path := hs _ _ (fw_inj hB (by decide) (by decide) (by decide)) h_path
        have h_kin := hs _ _ (fw_inj hB (by decide) (by decide) (by decide)) h_kin
        have h_now := t1
        have hE := hE.trans (hs.mono (fun _ z => (Or.inr (Or.inl z))))
        show V g X 6 w14 0 0 113 [(0, .ref (B 0)), (1, .int p1), (2, .int (nI k33))] [.int ((f_X9_dawns x_people ((f_X9_years_L40 x_houses x_people home path kin x_people 0 y_x_drawn_33 y_now_33).2)).1)]
        refine vv_istore_n (lv2 := [(3, .int ((f_X9_dawns x_people ((f_X9_years_L40 x_houses x_people home path kin x_people 0 y_x_drawn_33 y_now_33).2)).1)), (0, .ref (B 0)), (1, .int p1), (2, .int (nI k33))]) hC dX9_years_113 rfl (by decide) rfl ?_
        refine vv_iinc (lv2 := [(2, .int (nI (k33 + 1))), (3, .int ((f_X9_dawns x_people ((f_X9_years_L40 x_houses x_people home path kin x_people 0 y_x_drawn_33 y_now_33).2)).1)), (0, .ref (B 0)), (1, .int p1)]) hC 3 dX9_years_114 rfl (nI_add k33 1) (by decide) rfl ?_
        refine vv_goto hC 33 dX9_years_117 (by decide) ?_
        refine vv_lv [2, 3, 0] rfl ?_
        exact ih (k33 + 1) ((f_X9_years_L40 x_houses x_people home path kin x_people 0 y_x_drawn_33 y_now_33).1) ((f_X9_dawns x_people ((f_X9_years_L40 x_houses x_people home path kin x_people 0 y_x_drawn_33 y_now_33).2)).2) w14 out (by omega) (ho.trans (by first | (simp only [f_X9_years_L33]; done) | rfl | (simp only [f_X9_years_L33]; rfl))) h_m h_now h_begun h_home h_path h_kin hE hk
    refine vv_lv [1, 2, 0] rfl ?_
    refine hL16 (tn p1) 0 x_drawn now w3 (f_X9_years_L33 x_houses x_people home path kin (tn p1) 0 x_drawn now) (by omega) rfl h_m h_now h_begun h_home h_path h_kin hE ?_
    intro w15 h_m h_now h_begun h_home h_path h_kin hE
    refine vv_aload_n hC 0 dX9_years_120 rfl rfl ?_
    refine vv_callV hC dX9_years_121 md_X9_wolves lk_m_X9_283 lk_i_X9_wolves lk_s_X9_wolves h_m rfl (As := []) (rest := []) (c_X9_wolves g w15 B hB 0 x_houses x_people x_paths x_acts x_size x_at x_readHouses x_readPeople x_readPaths x_sights ((f_X9_years_L33 x_houses x_people home path kin (tn p1) 0 x_drawn now).1) ((f_X9_years_L33 x_houses x_people home path kin (tn p1) 0 x_drawn now).2) (by omega) h_m h_now) rfl rfl (Nat.le_of_ble_eq_true rfl) ⟨by decide, by decide, by decide, by decide⟩ (fun r w9 hq => ?_)
    obtain ⟨rfl, rfl⟩ := hq
    show V g X 6 w15 0 0 124 [(0, .ref (B 0)), (1, .int p1)] [.int (f_X9_wolves x_people ((f_X9_years_L33 x_houses x_people home path kin (tn p1) 0 x_drawn now).2))]
    refine vv_istore_n (lv2 := [(2, .int (f_X9_wolves x_people ((f_X9_years_L33 x_houses x_people home path kin (tn p1) 0 x_drawn now).2))), (0, .ref (B 0)), (1, .int p1)]) hC dX9_years_124 rfl (by decide) rfl ?_
    refine vv_aload_n hC 1 dX9_years_125 rfl rfl ?_
    refine vv_get (v := .ref (B 28)) hC fl_X9_63 dX9_years_126 h_m rfl ?_
    refine vv_aload_n hC 1 dX9_years_129 rfl rfl ?_
    refine vv_get (v := .ref (B 7)) hC fl_X9_19 dX9_years_130 h_m rfl ?_
    refine vv_callS hC dX9_years_133 md_X9_copies lk_m_X9_259 lk_t_X9_copies (As := [.ref (B 28), .ref (B 7)]) (rest := []) (c_X9_copies g w15 (B 28) (B 7) (f_X9_copies now begun) ((f_X9_years_L33 x_houses x_people home path kin (tn p1) 0 x_drawn now).2) h_begun h_now (fw_inj hB (by decide) (by decide) (by decide))) rfl rfl (Nat.le_of_ble_eq_true rfl) ⟨by decide, by decide, by decide, by decide⟩ (fun r w9 hq => ?_)
    obtain ⟨rfl, t1, hs⟩ := hq
    obtain ⟨w17, rfl⟩ : ∃ z, z = w9 := ⟨_, rfl⟩
    have h_m := hs _ _ (fw_oa h_m h_now) h_m
    have h_begun := hs _ _ (fw_inj hB (by decide) (by decide) (by decide)) h_begun
    have h_home := hs _ _ (fw_inj hB (by decide) (by decide) (by decide)) h_home
    have h_path := hs _ _ (fw_inj hB (by decide) (by decide) (by decide)) h_path
    have h_kin := hs _ _ (fw_inj hB (by decide) (by decide) (by decide)) h_kin
    have h_now := t1
    have hE := hE.trans (hs.mono (fun _ z => (Or.inr (Or.inl z))))
    show V g X 6 w17 0 0 136 [(2, .int (f_X9_wolves x_people ((f_X9_years_L33 x_houses x_people home path kin (tn p1) 0 x_drawn now).2))), (0, .ref (B 0)), (1, .int p1)] []
    refine vv_iload_n hC 0 dX9_years_136 rfl rfl ?_
    have hf : (f_X9_years x_houses x_people x_drawn now begun home path kin p1) = (f_X9_wolves x_people ((f_X9_years_L33 x_houses x_people home path kin (tn p1) 0 x_drawn now).2), 0, (f_X9_years_L33 x_houses x_people home path kin (tn p1) 0 x_drawn now).1, (f_X9_copies (f_X9_copies now begun) ((f_X9_years_L33 x_houses x_people home path kin (tn p1) 0 x_drawn now).2)), (f_X9_copies now begun)) := by first | (simp only [f_X9_years, if_pos c2]; done) | rfl | (simp only [f_X9_years, if_pos c2]; rfl)
    refine vv_iret hC hR rfl dX9_years_137 (by omega) (by omega) ?_
    rw [hf]
    try dsimp only
    exact ⟨rfl, h_m, h_now, h_begun, hE⟩
  · have c2 : ¬ (f_X9_in p1.toInt64 1 30 = true) := bI_f c2
    refine vv_bipush (v := (-2)) hC dX9_years_17 (by decide) ?_
    have hf : (f_X9_years x_houses x_people x_drawn now begun home path kin p1) = ((-2), 0, x_drawn, now, begun) := by first | (simp only [f_X9_years, if_neg c2]; done) | rfl | (simp only [f_X9_years, if_neg c2]; rfl)
    refine vv_iret hC hR rfl dX9_years_19 (by omega) (by omega) ?_
    rw [hf]
    try dsimp only
    exact ⟨rfl, h_m, h_now, h_begun, hE⟩
