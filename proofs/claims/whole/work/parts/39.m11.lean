def f_X9_hanged_L11 : Nat → Nat → (Nat → Int32) → (Nat → Int32)
  | 0, k11, y_votes_11 => y_votes_11
  | r11 + 1, k11, y_votes_11 => f_X9_hanged_L11 r11 (k11 + 1) (upd y_votes_11 k11 0)
def f_X9_hanged_x1 (x_houses : Nat) (x_people : Nat) (x_sights : Nat) (now : Nat → Int32) (tales : Nat → Int64) (sight : Nat → Int32) (went : Nat → Int32) (path : Nat → Int32) (home : Nat → Int32) (k32 : Nat) (y_votes_32 : Nat → Int32) : Nat → Int32 := (if (if f_X9_isThere now k32 = true then f_X9_voteOf x_people now ((f_X9_layTales x_houses x_people x_sights now tales sight went path home).1) k32 else (-9 : Int32)) = (-9) then y_votes_32 else upd y_votes_32 (tn (if f_X9_isThere now k32 = true then f_X9_voteOf x_people now ((f_X9_layTales x_houses x_people x_sights now tales sight went path home).1) k32 else (-9 : Int32))) (y_votes_32 (tn (if f_X9_isThere now k32 = true then f_X9_voteOf x_people now ((f_X9_layTales x_houses x_people x_sights now tales sight went path home).1) k32 else (-9 : Int32))) + 1))
def f_X9_hanged_L32 (x_houses : Nat) (x_people : Nat) (x_sights : Nat) (now : Nat → Int32) (tales : Nat → Int64) (sight : Nat → Int32) (went : Nat → Int32) (path : Nat → Int32) (home : Nat → Int32) : Nat → Nat → (Nat → Int32) → (Nat → Int32)
  | 0, k32, y_votes_32 => y_votes_32
  | r32 + 1, k32, y_votes_32 => f_X9_hanged_L32 x_houses x_people x_sights now tales sight went path home r32 (k32 + 1) (f_X9_hanged_x1 x_houses x_people x_sights now tales sight went path home k32 y_votes_32)
def f_X9_hanged_x2 (x_houses : Nat) (x_people : Nat) (x_sights : Nat) (now : Nat → Int32) (tales : Nat → Int64) (sight : Nat → Int32) (went : Nat → Int32) (path : Nat → Int32) (home : Nat → Int32) (votes : Nat → Int32) (k86 : Nat) (l1_86 : Int32) : Int32 := (if (f_X9_hanged_L32 x_houses x_people x_sights now tales sight went path home x_people 0 (f_X9_hanged_L11 6 0 votes)) k86 ≤ 0 then l1_86 else (if l1_86 = (-9) then nI k86 else (if (f_X9_hanged_L32 x_houses x_people x_sights now tales sight went path home x_people 0 (f_X9_hanged_L11 6 0 votes)) k86 ≤ (f_X9_hanged_L32 x_houses x_people x_sights now tales sight went path home x_people 0 (f_X9_hanged_L11 6 0 votes)) (tn l1_86) then nI (tn l1_86) else nI k86)))
def f_X9_hanged_L86 (x_houses : Nat) (x_people : Nat) (x_sights : Nat) (now : Nat → Int32) (tales : Nat → Int64) (sight : Nat → Int32) (went : Nat → Int32) (path : Nat → Int32) (home : Nat → Int32) (votes : Nat → Int32) : Nat → Nat → Int32 → Int32
  | 0, k86, l1_86 => l1_86
  | r86 + 1, k86, l1_86 => f_X9_hanged_L86 x_houses x_people x_sights now tales sight went path home votes r86 (k86 + 1) (f_X9_hanged_x2 x_houses x_people x_sights now tales sight went path home votes k86 l1_86)
def f_X9_hanged (x_houses : Nat) (x_people : Nat) (x_sights : Nat) (now : Nat → Int32) (tales : Nat → Int64) (sight : Nat → Int32) (went : Nat → Int32) (path : Nat → Int32) (home : Nat → Int32) (votes : Nat → Int32) : Int32 × Int32 × (Nat → Int64) × (Nat → Int32) × (Nat → Int32) := ((f_X9_hanged_L86 x_houses x_people x_sights now tales sight went path home votes x_people 0 (-9)), 0, (f_X9_layTales x_houses x_people x_sights now tales sight went path home).1, (f_X9_layTales x_houses x_people x_sights now tales sight went path home).2, (f_X9_hanged_L32 x_houses x_people x_sights now tales sight went path home x_people 0 (f_X9_hanged_L11 6 0 votes)))
set_option maxHeartbeats 4000000 in
set_option maxRecDepth 100000 in
theorem c_X9_hanged (g : GT) (w0 : Wd) (B : Nat → Nat) (hB : ∀ i j, i < 60 → j < 60 → B i = B j → i = j) (x_thrown : Int32) (x_houses : Nat) (x_people : Nat) (x_paths : Nat) (x_acts : Nat) (x_size : Nat) (x_at : Nat) (x_readHouses : Nat) (x_readPeople : Nat) (x_readPaths : Nat) (x_sights : Nat) (x_drawn : Int64) (now : Nat → Int32) (tales : Nat → Int64) (sight : Nat → Int32) (went : Nat → Int32) (path : Nat → Int32) (home : Nat → Int32) (votes : Nat → Int32) (hxp : x_people ≤ 6) (hxh : x_houses ≤ 4) (hom : ∀ q, q < 6 → home q = nI (tn (home q)) ∧ tn (home q) < 4) (hsi : x_sights ≤ 6) (hendW : ∀ (set moon : Int32) (w : Nat → Int32), f_X9_waysOf_L26_E x_houses x_people x_sights sight path home now set moon fuelW 0 true (f_X9_waysOf_L2 6 0 w) = true) (h_m : w0 (B 0) = some (.inr (9, cM B (x_thrown, x_houses, x_people, x_paths, x_acts, x_size, x_at, x_readHouses, x_readPeople, x_readPaths, x_sights, x_drawn)))) (h_now : w0 (B 7) = some (.inl (g.2.2.1 0, 43, .inl now))) (h_tales : w0 (B 25) = some (.inl (g.2.2.1 1, 64, .inr (.inl tales)))) (h_sight : w0 (B 22) = some (.inl (g.2.2.1 0, 24, .inl sight))) (h_went : w0 (B 24) = some (.inl (g.2.2.1 0, 6, .inl went))) (h_path : w0 (B 4) = some (.inl (g.2.2.1 0, 16, .inl path))) (h_home : w0 (B 5) = some (.inl (g.2.2.1 0, 6, .inl home))) (h_votes : w0 (B 27) = some (.inl (g.2.2.1 0, 6, .inl votes))) : CT g yX9_hanged cX9_hanged 3 (some .int) 5 122 0 0 w0 [.ref (B 0)] (fun r w2 => r = some (.int ((f_X9_hanged x_houses x_people x_sights now tales sight went path home votes).1)) ∧ w2 (B 0) = some (.inr (9, cM B ((f_X9_hanged x_houses x_people x_sights now tales sight went path home votes).2.1, x_houses, x_people, x_paths, x_acts, x_size, x_at, x_readHouses, x_readPeople, x_readPaths, x_sights, x_drawn))) ∧ w2 (B 25) = some (.inl (g.2.2.1 1, 64, .inr (.inl ((f_X9_hanged x_houses x_people x_sights now tales sight went path home votes).2.2.1)))) ∧ w2 (B 24) = some (.inl (g.2.2.1 0, 6, .inl ((f_X9_hanged x_houses x_people x_sights now tales sight went path home votes).2.2.2.1))) ∧ w2 (B 27) = some (.inl (g.2.2.1 0, 6, .inl ((f_X9_hanged x_houses x_people x_sights now tales sight went path home votes).2.2.2.2))) ∧ wE (fun q => q = (B 0) ∨ q = (B 25) ∨ q = (B 24) ∨ q = (B 27)) w0 w2) := by
  refine CT.of (own := RX9) (by decide +kernel) rfl (Nat.le_of_ble_eq_true rfl) (fun X hC hR hI => ?_)
  show V g X 3 w0 0 0 0 [(0, .ref (B 0))] []
  have hE : wE (fun q => q = (B 0) ∨ q = (B 25) ∨ q = (B 24) ∨ q = (B 27)) w0 w0 := wE.refl
  refine vv_aload_n hC 0 dX9_hanged_0 rfl rfl ?_
  refine vv_iconst (v := 0) hC dX9_hanged_1 (by decide) ?_
  refine vv_put hC fp_X9_69 dX9_hanged_2 h_m rfl rfl (Nat.le_of_ble_eq_true rfl) (fun w1 t1 hs => ?_)
  have t1 : w1 (B 0) = some (.inr (9, cM B (0, x_houses, x_people, x_paths, x_acts, x_size, x_at, x_readHouses, x_readPeople, x_readPaths, x_sights, x_drawn))) := t1.trans (congrArg (fun z => some (Sum.inr (9, z))) (eM_thrown _ _ _ _ _ _ _ _ _ _ _ _ _ _))
  have h_now := hs _ _ (fw_ao h_now h_m) h_now
  have h_tales := hs _ _ (fw_ao h_tales h_m) h_tales
  have h_sight := hs _ _ (fw_ao h_sight h_m) h_sight
  have h_went := hs _ _ (fw_ao h_went h_m) h_went
  have h_path := hs _ _ (fw_ao h_path h_m) h_path
  have h_home := hs _ _ (fw_ao h_home h_m) h_home
  have h_votes := hs _ _ (fw_ao h_votes h_m) h_votes
  have h_m := t1
  have hE := hE.trans (hs.mono (fun _ z => (Or.inl z)))
  refine vv_aload_n hC 0 dX9_hanged_5 rfl rfl ?_
  refine vv_callV hC dX9_hanged_6 md_X9_layTales lk_m_X9_228 lk_i_X9_layTales lk_s_X9_layTales h_m rfl (As := []) (rest := []) (c_X9_layTales g w1 B hB 0 x_houses x_people x_paths x_acts x_size x_at x_readHouses x_readPeople x_readPaths x_sights x_drawn now tales sight went path home (by omega) (by omega) (hom) (by omega) (hendW) h_m h_now h_tales h_sight h_went h_path h_home) rfl rfl (Nat.le_of_ble_eq_true rfl) ⟨by decide, by decide, by decide, by decide⟩ (fun r w9 hq => ?_)
  obtain ⟨rfl, t1, t2, hs⟩ := hq
  obtain ⟨w2, rfl⟩ : ∃ z, z = w9 := ⟨_, rfl⟩
  have h_m := hs _ _ (fun z => z.elim (fw_oa h_m h_tales) (fw_oa h_m h_went)) h_m
  have h_now := hs _ _ (fun z => z.elim (fw_inj hB (by decide) (by decide) (by decide)) (fw_inj hB (by decide) (by decide) (by decide))) h_now
  have h_sight := hs _ _ (fun z => z.elim (fw_inj hB (by decide) (by decide) (by decide)) (fw_inj hB (by decide) (by decide) (by decide))) h_sight
  have h_path := hs _ _ (fun z => z.elim (fw_inj hB (by decide) (by decide) (by decide)) (fw_inj hB (by decide) (by decide) (by decide))) h_path
  have h_home := hs _ _ (fun z => z.elim (fw_inj hB (by decide) (by decide) (by decide)) (fw_inj hB (by decide) (by decide) (by decide))) h_home
  have h_votes := hs _ _ (fun z => z.elim (fw_inj hB (by decide) (by decide) (by decide)) (fw_inj hB (by decide) (by decide) (by decide))) h_votes
  have h_tales := t1
  have h_went := t2
  have hE := hE.trans (hs.mono (fun _ z => z.elim (fun z => (Or.inr (Or.inl z))) (fun z => (Or.inr (Or.inr (Or.inl z))))))
  show V g X 3 w2 0 0 9 [(0, .ref (B 0))] []
  refine vv_iconst (v := 0) hC dX9_hanged_9 (by decide) ?_
  refine vv_istore_n (lv2 := [(1, .int 0), (0, .ref (B 0))]) hC dX9_hanged_10 rfl (by decide) rfl ?_
  have hL6 : ∀ (r11 k11 : Nat) (y_votes_11 : Nat → Int32) (w3 : Wd) (out : (Nat → Int32)), k11 + r11 = 6 → out = f_X9_hanged_L11 r11 k11 y_votes_11 → w3 (B 0) = some (.inr (9, cM B (0, x_houses, x_people, x_paths, x_acts, x_size, x_at, x_readHouses, x_readPeople, x_readPaths, x_sights, x_drawn))) → w3 (B 7) = some (.inl (g.2.2.1 0, 43, .inl now)) → w3 (B 25) = some (.inl (g.2.2.1 1, 64, .inr (.inl ((f_X9_layTales x_houses x_people x_sights now tales sight went path home).1)))) → w3 (B 22) = some (.inl (g.2.2.1 0, 24, .inl sight)) → w3 (B 24) = some (.inl (g.2.2.1 0, 6, .inl ((f_X9_layTales x_houses x_people x_sights now tales sight went path home).2))) → w3 (B 4) = some (.inl (g.2.2.1 0, 16, .inl path)) → w3 (B 5) = some (.inl (g.2.2.1 0, 6, .inl home)) → w3 (B 27) = some (.inl (g.2.2.1 0, 6, .inl y_votes_11)) → wE (fun q => q = (B 0) ∨ q = (B 25) ∨ q = (B 24) ∨ q = (B 27)) w0 w3 → (∀ w5 : Wd, w5 (B 0) = some (.inr (9, cM B (0, x_houses, x_people, x_paths, x_acts, x_size, x_at, x_readHouses, x_readPeople, x_readPaths, x_sights, x_drawn))) → w5 (B 7) = some (.inl (g.2.2.1 0, 43, .inl now)) → w5 (B 25) = some (.inl (g.2.2.1 1, 64, .inr (.inl ((f_X9_layTales x_houses x_people x_sights now tales sight went path home).1)))) → w5 (B 22) = some (.inl (g.2.2.1 0, 24, .inl sight)) → w5 (B 24) = some (.inl (g.2.2.1 0, 6, .inl ((f_X9_layTales x_houses x_people x_sights now tales sight went path home).2))) → w5 (B 4) = some (.inl (g.2.2.1 0, 16, .inl path)) → w5 (B 5) = some (.inl (g.2.2.1 0, 6, .inl home)) → w5 (B 27) = some (.inl (g.2.2.1 0, 6, .inl out)) → wE (fun q => q = (B 0) ∨ q = (B 25) ∨ q = (B 24) ∨ q = (B 27)) w0 w5 → V g X 3 w5 0 0 30 [(0, .ref (B 0))] []) → V g X 3 w3 0 0 11 [(0, .ref (B 0)), (1, .int (nI k11))] [] := by
    intro r11
    induction r11 with
    | zero =>
      intro k11 y_votes_11 w3 out hb ho h_m h_now h_tales h_sight h_went h_path h_home h_votes hE hk
      refine vv_iload_n hC 1 dX9_hanged_11 rfl rfl ?_
      refine vv_bipush (v := (6)) hC dX9_hanged_12 (by decide) ?_
      refine vv_icmp_ge hC 30 dX9_hanged_14 (by decide) (fun c => ?_) (fun c => False.elim (c ((nI_le_ (a := 6) (b := k11) (by omega) (by omega)).mpr (by omega))))
      refine vv_lv [0] rfl ?_
      have ho := ho.trans (by first | (simp only [f_X9_hanged_L11]; done) | rfl | (simp only [f_X9_hanged_L11]; rfl) : _ = y_votes_11)
      subst ho
      exact hk w3 h_m h_now h_tales h_sight h_went h_path h_home h_votes hE
    | succ r11 ih =>
      intro k11 y_votes_11 w3 out hb ho h_m h_now h_tales h_sight h_went h_path h_home h_votes hE hk
      refine vv_iload_n hC 1 dX9_hanged_11 rfl rfl ?_
      refine vv_bipush (v := (6)) hC dX9_hanged_12 (by decide) ?_
      refine vv_icmp_ge hC 30 dX9_hanged_14 (by decide) (fun c => absurd ((nI_le_ (a := 6) (b := k11) (by omega) (by omega)).mp c) (by first | omega | decide)) (fun c => ?_)
      refine vv_aload_n hC 0 dX9_hanged_17 rfl rfl ?_
      refine vv_get (v := .ref (B 27)) hC fl_X9_60 dX9_hanged_18 h_m rfl ?_
      refine vv_iload_n hC 1 dX9_hanged_21 rfl rfl ?_
      refine vv_iconst (v := 0) hC dX9_hanged_22 (by decide) ?_
      refine vv_iastn (t := k11) hC dX9_hanged_23 h_votes (by omega) (by decide) (fun w4 t1 hs => ?_)
      have t1 : w4 (B 27) = some (.inl (g.2.2.1 0, 6, .inl (upd y_votes_11 k11 0))) := t1
      have h_m := hs _ _ (fw_oa h_m h_votes) h_m
      have h_now := hs _ _ (fw_inj hB (by decide) (by decide) (by decide)) h_now
      have h_tales := hs _ _ (fw_inj hB (by decide) (by decide) (by decide)) h_tales
      have h_sight := hs _ _ (fw_inj hB (by decide) (by decide) (by decide)) h_sight
      have h_went := hs _ _ (fw_inj hB (by decide) (by decide) (by decide)) h_went
      have h_path := hs _ _ (fw_inj hB (by decide) (by decide) (by decide)) h_path
      have h_home := hs _ _ (fw_inj hB (by decide) (by decide) (by decide)) h_home
      have h_votes := t1
      have hE := hE.trans (hs.mono (fun _ z => (Or.inr (Or.inr (Or.inr z)))))
      refine vv_iinc (lv2 := [(1, .int (nI (k11 + 1))), (0, .ref (B 0))]) hC 1 dX9_hanged_24 rfl (nI_add k11 1) (by decide) rfl ?_
      refine vv_goto hC 11 dX9_hanged_27 (by decide) ?_
      refine vv_lv [1, 0] rfl ?_
      exact ih (k11 + 1) (upd y_votes_11 k11 0) w4 out (by omega) (ho.trans (by first | (simp only [f_X9_hanged_L11]; done) | rfl | (simp only [f_X9_hanged_L11]; rfl))) h_m h_now h_tales h_sight h_went h_path h_home h_votes hE hk
  refine vv_lv [1, 0] rfl ?_
  refine hL6 6 0 votes w2 (f_X9_hanged_L11 6 0 votes) (by omega) rfl h_m h_now h_tales h_sight h_went h_path h_home h_votes hE ?_
  intro w5 h_m h_now h_tales h_sight h_went h_path h_home h_votes hE
  refine vv_iconst (v := 0) hC dX9_hanged_30 (by decide) ?_
  refine vv_istore_n (lv2 := [(1, .int 0), (0, .ref (B 0))]) hC dX9_hanged_31 rfl (by decide) rfl ?_
  have hL15 : ∀ (r32 k32 : Nat) (y_votes_32 : Nat → Int32) (w7 : Wd) (out : (Nat → Int32)), k32 + r32 = x_people → out = f_X9_hanged_L32 x_houses x_people x_sights now tales sight went path home r32 k32 y_votes_32 → w7 (B 0) = some (.inr (9, cM B (0, x_houses, x_people, x_paths, x_acts, x_size, x_at, x_readHouses, x_readPeople, x_readPaths, x_sights, x_drawn))) → w7 (B 7) = some (.inl (g.2.2.1 0, 43, .inl now)) → w7 (B 25) = some (.inl (g.2.2.1 1, 64, .inr (.inl ((f_X9_layTales x_houses x_people x_sights now tales sight went path home).1)))) → w7 (B 22) = some (.inl (g.2.2.1 0, 24, .inl sight)) → w7 (B 24) = some (.inl (g.2.2.1 0, 6, .inl ((f_X9_layTales x_houses x_people x_sights now tales sight went path home).2))) → w7 (B 4) = some (.inl (g.2.2.1 0, 16, .inl path)) → w7 (B 5) = some (.inl (g.2.2.1 0, 6, .inl home)) → w7 (B 27) = some (.inl (g.2.2.1 0, 6, .inl y_votes_32)) → wE (fun q => q = (B 0) ∨ q = (B 25) ∨ q = (B 24) ∨ q = (B 27)) w0 w7 → (∀ w14 : Wd, w14 (B 0) = some (.inr (9, cM B (0, x_houses, x_people, x_paths, x_acts, x_size, x_at, x_readHouses, x_readPeople, x_readPaths, x_sights, x_drawn))) → w14 (B 7) = some (.inl (g.2.2.1 0, 43, .inl now)) → w14 (B 25) = some (.inl (g.2.2.1 1, 64, .inr (.inl ((f_X9_layTales x_houses x_people x_sights now tales sight went path home).1)))) → w14 (B 22) = some (.inl (g.2.2.1 0, 24, .inl sight)) → w14 (B 24) = some (.inl (g.2.2.1 0, 6, .inl ((f_X9_layTales x_houses x_people x_sights now tales sight went path home).2))) → w14 (B 4) = some (.inl (g.2.2.1 0, 16, .inl path)) → w14 (B 5) = some (.inl (g.2.2.1 0, 6, .inl home)) → w14 (B 27) = some (.inl (g.2.2.1 0, 6, .inl out)) → wE (fun q => q = (B 0) ∨ q = (B 25) ∨ q = (B 24) ∨ q = (B 27)) w0 w14 → V g X 3 w14 0 0 81 [(0, .ref (B 0))] []) → V g X 3 w7 0 0 32 [(0, .ref (B 0)), (1, .int (nI k32))] [] := by
    intro r32
    induction r32 with
    | zero =>
      intro k32 y_votes_32 w7 out hb ho h_m h_now h_tales h_sight h_went h_path h_home h_votes hE hk
      refine vv_iload_n hC 1 dX9_hanged_32 rfl rfl ?_
      refine vv_aload_n hC 0 dX9_hanged_33 rfl rfl ?_
      refine vv_get (v := .int (nI x_people)) hC fl_X9_80 dX9_hanged_34 h_m rfl ?_
      refine vv_icmp_ge hC 81 dX9_hanged_37 (by decide) (fun c => ?_) (fun c => False.elim (c ((nI_le_ (a := x_people) (b := k32) (by omega) (by omega)).mpr (by omega))))
      refine vv_lv [0] rfl ?_
      have ho := ho.trans (by first | (simp only [f_X9_hanged_L32]; done) | rfl | (simp only [f_X9_hanged_L32]; rfl) : _ = y_votes_32)
      subst ho
      exact hk w7 h_m h_now h_tales h_sight h_went h_path h_home h_votes hE
    | succ r32 ih =>
      intro k32 y_votes_32 w7 out hb ho h_m h_now h_tales h_sight h_went h_path h_home h_votes hE hk
      refine vv_iload_n hC 1 dX9_hanged_32 rfl rfl ?_
      refine vv_aload_n hC 0 dX9_hanged_33 rfl rfl ?_
      refine vv_get (v := .int (nI x_people)) hC fl_X9_80 dX9_hanged_34 h_m rfl ?_
      refine vv_icmp_ge hC 81 dX9_hanged_37 (by decide) (fun c => absurd ((nI_le_ (a := x_people) (b := k32) (by omega) (by omega)).mp c) (by first | omega | decide)) (fun c => ?_)
      refine vv_aload_n hC 0 dX9_hanged_40 rfl rfl ?_
      refine vv_iload_n hC 1 dX9_hanged_41 rfl rfl ?_
      refine vv_callV hC dX9_hanged_42 md_X9_isThere lk_m_X9_87 lk_i_X9_isThere lk_s_X9_isThere h_m rfl (As := [.int (nI k32)]) (rest := []) (c_X9_isThere g w7 B hB 0 x_houses x_people x_paths x_acts x_size x_at x_readHouses x_readPeople x_readPaths x_sights x_drawn now k32 (by omega) h_m h_now) rfl rfl (Nat.le_of_ble_eq_true rfl) ⟨by decide, by decide, by decide, by decide⟩ (fun r w9 hq => ?_)
      obtain ⟨rfl, rfl⟩ := hq
      show V g X 3 w7 0 0 45 [(0, .ref (B 0)), (1, .int (nI k32))] [.int (bI (f_X9_isThere now k32))]
      have hJ9 : V g X 3 w7 0 0 58 [(0, .ref (B 0)), (1, .int (nI k32))] [.int (if f_X9_isThere now k32 = true then f_X9_voteOf x_people now ((f_X9_layTales x_houses x_people x_sights now tales sight went path home).1) k32 else (-9 : Int32))] := by
        refine vv_istore_n (lv2 := [(2, .int (if f_X9_isThere now k32 = true then f_X9_voteOf x_people now ((f_X9_layTales x_houses x_people x_sights now tales sight went path home).1) k32 else (-9 : Int32))), (0, .ref (B 0)), (1, .int (nI k32))]) hC dX9_hanged_58 rfl (by decide) rfl ?_
        refine vv_iload_n hC 0 dX9_hanged_59 rfl rfl ?_
        refine vv_bipush (v := (-9)) hC dX9_hanged_60 (by decide) ?_
        have hJ11 : ∀ w13 : Wd, w13 (B 0) = some (.inr (9, cM B (0, x_houses, x_people, x_paths, x_acts, x_size, x_at, x_readHouses, x_readPeople, x_readPaths, x_sights, x_drawn))) → w13 (B 7) = some (.inl (g.2.2.1 0, 43, .inl now)) → w13 (B 25) = some (.inl (g.2.2.1 1, 64, .inr (.inl ((f_X9_layTales x_houses x_people x_sights now tales sight went path home).1)))) → w13 (B 22) = some (.inl (g.2.2.1 0, 24, .inl sight)) → w13 (B 24) = some (.inl (g.2.2.1 0, 6, .inl ((f_X9_layTales x_houses x_people x_sights now tales sight went path home).2))) → w13 (B 4) = some (.inl (g.2.2.1 0, 16, .inl path)) → w13 (B 5) = some (.inl (g.2.2.1 0, 6, .inl home)) → w13 (B 27) = some (.inl (g.2.2.1 0, 6, .inl (f_X9_hanged_x1 x_houses x_people x_sights now tales sight went path home k32 y_votes_32))) → wE (fun q => q = (B 0) ∨ q = (B 25) ∨ q = (B 24) ∨ q = (B 27)) w0 w13 → V g X 3 w13 0 0 75 [(0, .ref (B 0)), (1, .int (nI k32)), (2, .int (if f_X9_isThere now k32 = true then f_X9_voteOf x_people now ((f_X9_layTales x_houses x_people x_sights now tales sight went path home).1) k32 else (-9 : Int32)))] [] := by
          intro w13 h_m h_now h_tales h_sight h_went h_path h_home h_votes hE
          refine vv_iinc (lv2 := [(1, .int (nI (k32 + 1))), (0, .ref (B 0)), (2, .int (if f_X9_isThere now k32 = true then f_X9_voteOf x_people now ((f_X9_layTales x_houses x_people x_sights now tales sight went path home).1) k32 else (-9 : Int32)))]) hC 1 dX9_hanged_75 rfl (nI_add k32 1) (by decide) rfl ?_
          refine vv_goto hC 32 dX9_hanged_78 (by decide) ?_
          refine vv_lv [1, 0] rfl ?_
          exact ih (k32 + 1) (f_X9_hanged_x1 x_houses x_people x_sights now tales sight went path home k32 y_votes_32) w13 out (by omega) (ho.trans (by first | (simp only [f_X9_hanged_L32]; done) | rfl | (simp only [f_X9_hanged_L32]; rfl))) h_m h_now h_tales h_sight h_went h_path h_home h_votes hE hk
        refine vv_icmp_eq hC 75 dX9_hanged_62 (by decide) (fun c10 => ?_) (fun c10 => ?_)
        · have c10 : (if f_X9_isThere now k32 = true then f_X9_voteOf x_people now ((f_X9_layTales x_houses x_people x_sights now tales sight went path home).1) k32 else (-9 : Int32)) = (-9) := c10
          refine vv_lv [1, 2, 0] rfl ?_
          have hz := hJ11 w7
          try simp only [f_X9_hanged_x1, if_pos c10] at hz
          first | exact hz h_m h_now h_tales h_sight h_went h_path h_home h_votes hE | (simp only [f_X9_hanged_x1, if_pos c10]; exact hz h_m h_now h_tales h_sight h_went h_path h_home h_votes hE)
        · have c10 : ¬ ((if f_X9_isThere now k32 = true then f_X9_voteOf x_people now ((f_X9_layTales x_houses x_people x_sights now tales sight went path home).1) k32 else (-9 : Int32)) = (-9)) := c10
          have bc10 := b9_b vote_9 (by omega) c10
          refine vv_aload_n hC 1 dX9_hanged_65 rfl rfl ?_
          refine vv_get (v := .ref (B 27)) hC fl_X9_60 dX9_hanged_66 h_m rfl ?_
          refine vv_iload_n hC 0 dX9_hanged_69 rfl rfl ?_
          refine vv_topi (nI (tn (if f_X9_isThere now k32 = true then f_X9_voteOf x_people now ((f_X9_layTales x_houses x_people x_sights now tales sight went path home).1) k32 else (-9 : Int32)))) (b9_e vote_9 (by omega) c10) ?_
          refine vv_dup2_11 hC dX9_hanged_70 rfl rfl ?_
          refine vv_ialdn (t := tn (if f_X9_isThere now k32 = true then f_X9_voteOf x_people now ((f_X9_layTales x_houses x_people x_sights now tales sight went path home).1) k32 else (-9 : Int32))) hC dX9_hanged_71 h_votes (by omega) (by decide) ?_
          refine vv_iconst (v := 1) hC dX9_hanged_72 (by decide) ?_
          refine vv_iadd hC dX9_hanged_73 ?_
          refine vv_iastn (t := tn (if f_X9_isThere now k32 = true then f_X9_voteOf x_people now ((f_X9_layTales x_houses x_people x_sights now tales sight went path home).1) k32 else (-9 : Int32))) hC dX9_hanged_74 h_votes (by omega) (by decide) (fun w12 t1 hs => ?_)
          have t1 : w12 (B 27) = some (.inl (g.2.2.1 0, 6, .inl (upd y_votes_32 (tn (if f_X9_isThere now k32 = true then f_X9_voteOf x_people now ((f_X9_layTales x_houses x_people x_sights now tales sight went path home).1) k32 else (-9 : Int32))) (y_votes_32 (tn (if f_X9_isThere now k32 = true then f_X9_voteOf x_people now ((f_X9_layTales x_houses x_people x_sights now tales sight went path home).1) k32 else (-9 : Int32))) + 1)))) := t1
          have h_m := hs _ _ (fw_oa h_m h_votes) h_m
          have h_now := hs _ _ (fw_inj hB (by decide) (by decide) (by decide)) h_now
          have h_tales := hs _ _ (fw_inj hB (by decide) (by decide) (by decide)) h_tales
          have h_sight := hs _ _ (fw_inj hB (by decide) (by decide) (by decide)) h_sight
          have h_went := hs _ _ (fw_inj hB (by decide) (by decide) (by decide)) h_went
          have h_path := hs _ _ (fw_inj hB (by decide) (by decide) (by decide)) h_path
          have h_home := hs _ _ (fw_inj hB (by decide) (by decide) (by decide)) h_home
          have h_votes := t1
          have hE := hE.trans (hs.mono (fun _ z => (Or.inr (Or.inr (Or.inr z)))))
          refine vv_lv [1, 2, 0] rfl ?_
          have hz := hJ11 w12
          try simp only [f_X9_hanged_x1, if_neg c10] at hz
          first | exact hz h_m h_now h_tales h_sight h_went h_path h_home h_votes hE | (simp only [f_X9_hanged_x1, if_neg c10]; exact hz h_m h_now h_tales h_sight h_went h_path h_home h_votes hE)
      refine vv_if_eq hC 56 dX9_hanged_45 (by decide) (fun c8 => ?_) (fun c8 => ?_)
      · have c8 : ¬ (f_X9_isThere now k32 = true) := bI_f c8
        refine vv_bipush (v := (-9)) hC dX9_hanged_56 (by decide) ?_
        have hz := hJ9
        try simp only [if_neg c8] at hz
        first | exact hz | (simp only [if_neg c8]; exact hz)
      · have c8 : f_X9_isThere now k32 = true := bI_t c8
        refine vv_aload_n hC 0 dX9_hanged_48 rfl rfl ?_
        refine vv_iload_n hC 1 dX9_hanged_49 rfl rfl ?_
        refine vv_callV hC dX9_hanged_50 md_X9_voteOf lk_m_X9_248 lk_i_X9_voteOf lk_s_X9_voteOf h_m rfl (As := [.int (nI k32)]) (rest := []) (c_X9_voteOf g w7 B hB 0 x_houses x_people x_paths x_acts x_size x_at x_readHouses x_readPeople x_readPaths x_sights x_drawn now ((f_X9_layTales x_houses x_people x_sights now tales sight went path home).1) k32 (by omega) (by omega) h_m h_now h_tales) rfl rfl (Nat.le_of_ble_eq_true rfl) ⟨by decide, by decide, by decide, by decide⟩ (fun r w9 hq => ?_)
        obtain ⟨rfl, rfl⟩ := hq
        show V g X 3 w7 0 0 53 [(0, .ref (B 0)), (1, .int (nI k32))] [.int (f_X9_voteOf x_people now ((f_X9_layTales x_houses x_people x_sights now tales sight went path home).1) k32)]
        refine vv_goto hC 58 dX9_hanged_53 (by decide) ?_
        have hz := hJ9
        try simp only [if_pos c8] at hz
        first | exact hz | (simp only [if_pos c8]; exact hz)
  refine vv_lv [1, 0] rfl ?_
  refine hL15 x_people 0 (f_X9_hanged_L11 6 0 votes) w5 (f_X9_hanged_L32 x_houses x_people x_sights now tales sight went path home x_people 0 (f_X9_hanged_L11 6 0 votes)) (by omega) rfl h_m h_now h_tales h_sight h_went h_path h_home h_votes hE ?_
  intro w14 h_m h_now h_tales h_sight h_went h_path h_home h_votes hE
  refine vv_bipush (v := (-9)) hC dX9_hanged_81 (by decide) ?_
  refine vv_istore_n (lv2 := [(1, .int (-9)), (0, .ref (B 0))]) hC dX9_hanged_83 rfl (by decide) rfl ?_
  refine vv_iconst (v := 0) hC dX9_hanged_84 (by decide) ?_
  refine vv_istore_n (lv2 := [(2, .int 0), (1, .int (-9)), (0, .ref (B 0))]) hC dX9_hanged_85 rfl (by decide) rfl ?_
  have hL20 : ∀ (r86 k86 : Nat) (l1_86 : Int32) (out : Int32), k86 + r86 = x_people → b9 x_people l1_86 → out = f_X9_hanged_L86 x_houses x_people x_sights now tales sight went path home votes r86 k86 l1_86 → V g X 3 w14 0 0 136 [(0, .ref (B 0)), (1, .int out)] [] → V g X 3 w14 0 0 86 [(0, .ref (B 0)), (1, .int l1_86), (2, .int (nI k86))] [] := by
    intro r86
    induction r86 with
    | zero =>
      intro k86 l1_86 out hb hb9 ho hk
      refine vv_iload_n hC 2 dX9_hanged_86 rfl rfl ?_
      refine vv_aload_n hC 0 dX9_hanged_87 rfl rfl ?_
      refine vv_get (v := .int (nI x_people)) hC fl_X9_80 dX9_hanged_88 h_m rfl ?_
      refine vv_icmp_ge hC 136 dX9_hanged_91 (by decide) (fun c => ?_) (fun c => False.elim (c ((nI_le_ (a := x_people) (b := k86) (by omega) (by omega)).mpr (by omega))))
      refine vv_lv [0, 1] rfl ?_
      have ho := ho.trans (by first | (simp only [f_X9_hanged_L86]; done) | rfl | (simp only [f_X9_hanged_L86]; rfl) : _ = l1_86)
      subst ho
      exact hk
    | succ r86 ih =>
      intro k86 l1_86 out hb hb9 ho hk
      refine vv_iload_n hC 2 dX9_hanged_86 rfl rfl ?_
      refine vv_aload_n hC 0 dX9_hanged_87 rfl rfl ?_
      refine vv_get (v := .int (nI x_people)) hC fl_X9_80 dX9_hanged_88 h_m rfl ?_
      refine vv_icmp_ge hC 136 dX9_hanged_91 (by decide) (fun c => absurd ((nI_le_ (a := x_people) (b := k86) (by omega) (by omega)).mp c) (by first | omega | decide)) (fun c => ?_)
      refine vv_aload_n hC 0 dX9_hanged_94 rfl rfl ?_
      refine vv_get (v := .ref (B 27)) hC fl_X9_60 dX9_hanged_95 h_m rfl ?_
      refine vv_iload_n hC 2 dX9_hanged_98 rfl rfl ?_
      refine vv_ialdn (t := k86) hC dX9_hanged_99 h_votes (by omega) (by decide) ?_
      have hJ17 : V g X 3 w14 0 0 129 [(0, .ref (B 0)), (1, .int l1_86), (2, .int (nI k86))] [.int (f_X9_hanged_x2 x_houses x_people x_sights now tales sight went path home votes k86 l1_86)] := by
        refine vv_istore_n (lv2 := [(1, .int (f_X9_hanged_x2 x_houses x_people x_sights now tales sight went path home votes k86 l1_86)), (0, .ref (B 0)), (2, .int (nI k86))]) hC dX9_hanged_129 rfl (by decide) rfl ?_
        refine vv_iinc (lv2 := [(2, .int (nI (k86 + 1))), (1, .int (f_X9_hanged_x2 x_houses x_people x_sights now tales sight went path home votes k86 l1_86)), (0, .ref (B 0))]) hC 2 dX9_hanged_130 rfl (nI_add k86 1) (by decide) rfl ?_
        refine vv_goto hC 86 dX9_hanged_133 (by decide) ?_
        refine vv_lv [2, 1, 0] rfl ?_
        exact ih (k86 + 1) (f_X9_hanged_x2 x_houses x_people x_sights now tales sight went path home votes k86 l1_86) out (by omega) (by (try unfold f_X9_hanged_x2); (repeat' split) <;> first | exact hb9 | exact Or.inr ⟨_, by omega, rfl⟩ | (rw [← b9_e hb9 (by omega) (by assumption)]; exact hb9)) (ho.trans (by first | (simp only [f_X9_hanged_L86]; done) | rfl | (simp only [f_X9_hanged_L86]; rfl))) hk
      refine vv_if_le hC 128 dX9_hanged_100 (by decide) (fun c16 => ?_) (fun c16 => ?_)
      · have c16 : (f_X9_hanged_L32 x_houses x_people x_sights now tales sight went path home x_people 0 (f_X9_hanged_L11 6 0 votes)) k86 ≤ 0 := c16
        refine vv_iload_n hC 1 dX9_hanged_128 rfl rfl ?_
        have hz := hJ17
        try simp only [f_X9_hanged_x2, if_pos c16] at hz
        first | exact hz | (simp only [f_X9_hanged_x2, if_pos c16]; exact hz)
      · have c16 : ¬ ((f_X9_hanged_L32 x_houses x_people x_sights now tales sight went path home x_people 0 (f_X9_hanged_L11 6 0 votes)) k86 ≤ 0) := c16
        refine vv_iload_n hC 1 dX9_hanged_103 rfl rfl ?_
        refine vv_bipush (v := (-9)) hC dX9_hanged_104 (by decide) ?_
        refine vv_icmp_eq hC 124 dX9_hanged_106 (by decide) (fun c18 => ?_) (fun c18 => ?_)
        · have c18 : l1_86 = (-9) := c18
          refine vv_iload_n hC 2 dX9_hanged_124 rfl rfl ?_
          refine vv_goto hC 129 dX9_hanged_125 (by decide) ?_
          have hz := hJ17
          try simp only [f_X9_hanged_x2, if_neg c16, if_pos c18] at hz
          first | exact hz | (simp only [f_X9_hanged_x2, if_neg c16, if_pos c18]; exact hz)
        · have c18 : ¬ (l1_86 = (-9)) := c18
          have bc18 := b9_b hb9 (by omega) c18
          refine vv_aload_n hC 0 dX9_hanged_109 rfl rfl ?_
          refine vv_get (v := .ref (B 27)) hC fl_X9_60 dX9_hanged_110 h_m rfl ?_
          refine vv_iload_n hC 2 dX9_hanged_113 rfl rfl ?_
          refine vv_ialdn (t := k86) hC dX9_hanged_114 h_votes (by omega) (by decide) ?_
          refine vv_aload_n hC 0 dX9_hanged_115 rfl rfl ?_
          refine vv_get (v := .ref (B 27)) hC fl_X9_60 dX9_hanged_116 h_m rfl ?_
          refine vv_iload_n hC 1 dX9_hanged_119 rfl rfl ?_
          refine vv_topi (nI (tn l1_86)) (b9_e hb9 (by omega) c18) ?_
          refine vv_ialdn (t := tn l1_86) hC dX9_hanged_120 h_votes (by omega) (by decide) ?_
          refine vv_icmp_le hC 128 dX9_hanged_121 (by decide) (fun c19 => ?_) (fun c19 => ?_)
          · have c19 : (f_X9_hanged_L32 x_houses x_people x_sights now tales sight went path home x_people 0 (f_X9_hanged_L11 6 0 votes)) k86 ≤ (f_X9_hanged_L32 x_houses x_people x_sights now tales sight went path home x_people 0 (f_X9_hanged_L11 6 0 votes)) (tn l1_86) := c19
            refine vv_iload_n hC 1 dX9_hanged_128 rfl rfl ?_
            refine vv_topi (nI (tn l1_86)) (b9_e hb9 (by omega) c18) ?_
            have hz := hJ17
            try simp only [f_X9_hanged_x2, if_neg c16, if_neg c18, if_pos c19] at hz
            first | exact hz | (simp only [f_X9_hanged_x2, if_neg c16, if_neg c18, if_pos c19]; exact hz)
          · have c19 : ¬ ((f_X9_hanged_L32 x_houses x_people x_sights now tales sight went path home x_people 0 (f_X9_hanged_L11 6 0 votes)) k86 ≤ (f_X9_hanged_L32 x_houses x_people x_sights now tales sight went path home x_people 0 (f_X9_hanged_L11 6 0 votes)) (tn l1_86)) := c19
            refine vv_iload_n hC 2 dX9_hanged_124 rfl rfl ?_
            refine vv_goto hC 129 dX9_hanged_125 (by decide) ?_
            have hz := hJ17
            try simp only [f_X9_hanged_x2, if_neg c16, if_neg c18, if_neg c19] at hz
            first | exact hz | (simp only [f_X9_hanged_x2, if_neg c16, if_neg c18, if_neg c19]; exact hz)
  refine vv_lv [2, 1, 0] rfl ?_
  refine hL20 x_people 0 (-9) (f_X9_hanged_L86 x_houses x_people x_sights now tales sight went path home votes x_people 0 (-9)) (by omega) (Or.inl rfl) rfl ?_
  refine vv_iload_n hC 1 dX9_hanged_136 rfl rfl ?_
  have hf : (f_X9_hanged x_houses x_people x_sights now tales sight went path home votes) = ((f_X9_hanged_L86 x_houses x_people x_sights now tales sight went path home votes x_people 0 (-9)), 0, (f_X9_layTales x_houses x_people x_sights now tales sight went path home).1, (f_X9_layTales x_houses x_people x_sights now tales sight went path home).2, (f_X9_hanged_L32 x_houses x_people x_sights now tales sight went path home x_people 0 (f_X9_hanged_L11 6 0 votes))) := by first | (simp only [f_X9_hanged]; done) | rfl | (simp only [f_X9_hanged]; rfl)
  refine vv_iret hC hR rfl dX9_hanged_137 (by omega) (by omega) ?_
  rw [hf]
  try dsimp only
  exact ⟨rfl, h_m, h_tales, h_went, h_votes, hE⟩
def f_X9_likely_L29 (x_houses : Nat) (x_people : Nat) (x_sights : Nat) (now : Nat → Int32) (tales : Nat → Int64) (sight : Nat → Int32) (went : Nat → Int32) (path : Nat → Int32) (home : Nat → Int32) (p1 : Int32) : Nat → Nat → Int64 → Int64 → Int64 × Int64
  | 0, k29, l3_29, l5_29 => (l3_29, l5_29)
  | r29 + 1, k29, l3_29, l5_29 => f_X9_likely_L29 x_houses x_people x_sights now tales sight went path home p1 r29 (k29 + 1) (l3_29 + ((f_X9_layTales x_houses x_people x_sights now tales sight went path home).1) k29) (l5_29 + (if f_X9_has (nI k29) (nI (tn p1)) = true then ((f_X9_layTales x_houses x_people x_sights now tales sight went path home).1) k29 else (0 : Int64)))
def f_X9_likely_x1 (x_houses : Nat) (x_people : Nat) (x_sights : Nat) (now : Nat → Int32) (tales : Nat → Int64) (sight : Nat → Int32) (went : Nat → Int32) (path : Nat → Int32) (home : Nat → Int32) (p1 : Int32) (p2 : Bool) : Int64 := (if (f_X9_likely_L29 x_houses x_people x_sights now tales sight went path home p1 64 0 0 0).1 = 0 then ((-3) : Int64) else f_X9_part ((f_X9_likely_L29 x_houses x_people x_sights now tales sight went path home p1 64 0 0 0).2) ((f_X9_likely_L29 x_houses x_people x_sights now tales sight went path home p1 64 0 0 0).1) p2)
def f_X9_likely (x_houses : Nat) (x_people : Nat) (x_sights : Nat) (now : Nat → Int32) (tales : Nat → Int64) (sight : Nat → Int32) (went : Nat → Int32) (path : Nat → Int32) (home : Nat → Int32) (p1 : Int32) (p2 : Bool) : Int64 × Int32 × (Nat → Int64) × (Nat → Int32) := (if f_X9_noOne x_people p1 = true then ((-1), 0, tales, went) else ((f_X9_likely_x1 x_houses x_people x_sights now tales sight went path home p1 p2), 0, (f_X9_layTales x_houses x_people x_sights now tales sight went path home).1, (f_X9_layTales x_houses x_people x_sights now tales sight went path home).2))
set_option maxHeartbeats 4000000 in
set_option maxRecDepth 100000 in
theorem c_X9_likely (g : GT) (w0 : Wd) (B : Nat → Nat) (hB : ∀ i j, i < 60 → j < 60 → B i = B j → i = j) (x_thrown : Int32) (x_houses : Nat) (x_people : Nat) (x_paths : Nat) (x_acts : Nat) (x_size : Nat) (x_at : Nat) (x_readHouses : Nat) (x_readPeople : Nat) (x_readPaths : Nat) (x_sights : Nat) (x_drawn : Int64) (now : Nat → Int32) (tales : Nat → Int64) (sight : Nat → Int32) (went : Nat → Int32) (path : Nat → Int32) (home : Nat → Int32) (p1 : Int32) (p2 : Bool) (hxp : x_people ≤ 6) (hxh : x_houses ≤ 4) (hom : ∀ q, q < 6 → home q = nI (tn (home q)) ∧ tn (home q) < 4) (hsi : x_sights ≤ 6) (hendW : ∀ (set moon : Int32) (w : Nat → Int32), f_X9_waysOf_L26_E x_houses x_people x_sights sight path home now set moon fuelW 0 true (f_X9_waysOf_L2 6 0 w) = true) (hpe : ¬ f_X9_noOne x_people p1 = true → ¬ (f_X9_likely_L29 x_houses x_people x_sights now tales sight went path home p1 64 0 0 0).1 = 0 → f_X9_part_L6_E fuelG (f_X9_likely_L29 x_houses x_people x_sights now tales sight went path home p1 64 0 0 0).2 (f_X9_likely_L29 x_houses x_people x_sights now tales sight went path home p1 64 0 0 0).1 = true ∧ ¬ (f_X9_part_L6 fuelG (f_X9_likely_L29 x_houses x_people x_sights now tales sight went path home p1 64 0 0 0).2 (f_X9_likely_L29 x_houses x_people x_sights now tales sight went path home p1 64 0 0 0).1).1 = 0) (h_m : w0 (B 0) = some (.inr (9, cM B (x_thrown, x_houses, x_people, x_paths, x_acts, x_size, x_at, x_readHouses, x_readPeople, x_readPaths, x_sights, x_drawn)))) (h_now : w0 (B 7) = some (.inl (g.2.2.1 0, 43, .inl now))) (h_tales : w0 (B 25) = some (.inl (g.2.2.1 1, 64, .inr (.inl tales)))) (h_sight : w0 (B 22) = some (.inl (g.2.2.1 0, 24, .inl sight))) (h_went : w0 (B 24) = some (.inl (g.2.2.1 0, 6, .inl went))) (h_path : w0 (B 4) = some (.inl (g.2.2.1 0, 16, .inl path))) (h_home : w0 (B 5) = some (.inl (g.2.2.1 0, 6, .inl home))) : CT g yX9_likely cX9_likely 8 (some .long) 5 122 0 0 w0 [.ref (B 0), .int p1, .int (bI p2)] (fun r w2 => r = some (.long ((f_X9_likely x_houses x_people x_sights now tales sight went path home p1 p2).1)) ∧ w2 (B 0) = some (.inr (9, cM B ((f_X9_likely x_houses x_people x_sights now tales sight went path home p1 p2).2.1, x_houses, x_people, x_paths, x_acts, x_size, x_at, x_readHouses, x_readPeople, x_readPaths, x_sights, x_drawn))) ∧ w2 (B 25) = some (.inl (g.2.2.1 1, 64, .inr (.inl ((f_X9_likely x_houses x_people x_sights now tales sight went path home p1 p2).2.2.1)))) ∧ w2 (B 24) = some (.inl (g.2.2.1 0, 6, .inl ((f_X9_likely x_houses x_people x_sights now tales sight went path home p1 p2).2.2.2))) ∧ wE (fun q => q = (B 0) ∨ q = (B 25) ∨ q = (B 24)) w0 w2) := by
  refine CT.of (own := RX9) (by decide +kernel) rfl (Nat.le_of_ble_eq_true rfl) (fun X hC hR hI => ?_)
  show V g X 8 w0 0 0 0 [(0, .ref (B 0)), (1, .int p1), (2, .int (bI p2))] []
  have hE : wE (fun q => q = (B 0) ∨ q = (B 25) ∨ q = (B 24)) w0 w0 := wE.refl
  refine vv_aload_n hC 0 dX9_likely_0 rfl rfl ?_
  refine vv_iconst (v := 0) hC dX9_likely_1 (by decide) ?_
  refine vv_put hC fp_X9_69 dX9_likely_2 h_m rfl rfl (Nat.le_of_ble_eq_true rfl) (fun w1 t1 hs => ?_)
  have t1 : w1 (B 0) = some (.inr (9, cM B (0, x_houses, x_people, x_paths, x_acts, x_size, x_at, x_readHouses, x_readPeople, x_readPaths, x_sights, x_drawn))) := t1.trans (congrArg (fun z => some (Sum.inr (9, z))) (eM_thrown _ _ _ _ _ _ _ _ _ _ _ _ _ _))
  have h_now := hs _ _ (fw_ao h_now h_m) h_now
  have h_tales := hs _ _ (fw_ao h_tales h_m) h_tales
  have h_sight := hs _ _ (fw_ao h_sight h_m) h_sight
  have h_went := hs _ _ (fw_ao h_went h_m) h_went
  have h_path := hs _ _ (fw_ao h_path h_m) h_path
  have h_home := hs _ _ (fw_ao h_home h_m) h_home
  have h_m := t1
  have hE := hE.trans (hs.mono (fun _ z => (Or.inl z)))
  refine vv_aload_n hC 0 dX9_likely_5 rfl rfl ?_
  refine vv_iload_n hC 1 dX9_likely_6 rfl rfl ?_
  refine vv_callV hC dX9_likely_7 md_X9_noOne lk_m_X9_168 lk_i_X9_noOne lk_s_X9_noOne h_m rfl (As := [.int p1]) (rest := []) (c_X9_noOne g w1 B hB 0 x_houses x_people x_paths x_acts x_size x_at x_readHouses x_readPeople x_readPaths x_sights x_drawn p1 h_m) rfl rfl (Nat.le_of_ble_eq_true rfl) ⟨by decide, by decide, by decide, by decide⟩ (fun r w9 hq => ?_)
  obtain ⟨rfl, rfl⟩ := hq
  show V g X 8 w1 0 0 10 [(0, .ref (B 0)), (1, .int p1), (2, .int (bI p2))] [.int (bI (f_X9_noOne x_people p1))]
  refine vv_if_eq hC 17 dX9_likely_10 (by decide) (fun c2 => ?_) (fun c2 => ?_)
  · have c2 : ¬ (f_X9_noOne x_people p1 = true) := bI_f c2
    have bc2 := noOne_b (by omega) c2
    refine vv_aload_n hC 0 dX9_likely_17 rfl rfl ?_
    refine vv_callV hC dX9_likely_18 md_X9_layTales lk_m_X9_228 lk_i_X9_layTales lk_s_X9_layTales h_m rfl (As := []) (rest := []) (c_X9_layTales g w1 B hB 0 x_houses x_people x_paths x_acts x_size x_at x_readHouses x_readPeople x_readPaths x_sights x_drawn now tales sight went path home (by omega) (by omega) (hom) (by omega) (hendW) h_m h_now h_tales h_sight h_went h_path h_home) rfl rfl (Nat.le_of_ble_eq_true rfl) ⟨by decide, by decide, by decide, by decide⟩ (fun r w9 hq => ?_)
    obtain ⟨rfl, t1, t2, hs⟩ := hq
    obtain ⟨w3, rfl⟩ : ∃ z, z = w9 := ⟨_, rfl⟩
    have h_m := hs _ _ (fun z => z.elim (fw_oa h_m h_tales) (fw_oa h_m h_went)) h_m
    have h_now := hs _ _ (fun z => z.elim (fw_inj hB (by decide) (by decide) (by decide)) (fw_inj hB (by decide) (by decide) (by decide))) h_now
    have h_sight := hs _ _ (fun z => z.elim (fw_inj hB (by decide) (by decide) (by decide)) (fw_inj hB (by decide) (by decide) (by decide))) h_sight
    have h_path := hs _ _ (fun z => z.elim (fw_inj hB (by decide) (by decide) (by decide)) (fw_inj hB (by decide) (by decide) (by decide))) h_path
    have h_home := hs _ _ (fun z => z.elim (fw_inj hB (by decide) (by decide) (by decide)) (fw_inj hB (by decide) (by decide) (by decide))) h_home
    have h_tales := t1
    have h_went := t2
    have hE := hE.trans (hs.mono (fun _ z => z.elim (fun z => (Or.inr (Or.inl z))) (fun z => (Or.inr (Or.inr z)))))
    show V g X 8 w3 0 0 21 [(0, .ref (B 0)), (1, .int p1), (2, .int (bI p2))] []
    refine vv_lconst (v := 0) hC dX9_likely_21 (by decide) ?_
    refine vv_lstore_n (lv2 := [(3, .long 0), (0, .ref (B 0)), (1, .int p1), (2, .int (bI p2))]) hC dX9_likely_22 rfl (by decide) rfl ?_
    refine vv_lconst (v := 0) hC dX9_likely_23 (by decide) ?_
    refine vv_lstore (lv2 := [(5, .long 0), (3, .long 0), (0, .ref (B 0)), (1, .int p1), (2, .int (bI p2))]) hC dX9_likely_24 (by decide) rfl ?_
    refine vv_iconst (v := 0) hC dX9_likely_26 (by decide) ?_
    refine vv_istore (lv2 := [(7, .int 0), (5, .long 0), (3, .long 0), (0, .ref (B 0)), (1, .int p1), (2, .int (bI p2))]) hC dX9_likely_27 (by decide) rfl ?_
    have hL6 : ∀ (r29 k29 : Nat) (l3_29 : Int64) (l5_29 : Int64) (out : Int64 × Int64), k29 + r29 = 64 → out = f_X9_likely_L29 x_houses x_people x_sights now tales sight went path home p1 r29 k29 l3_29 l5_29 → V g X 8 w3 0 0 77 [(0, .ref (B 0)), (1, .int p1), (2, .int (bI p2)), (3, .long out.1), (5, .long out.2)] [] → V g X 8 w3 0 0 29 [(0, .ref (B 0)), (1, .int p1), (2, .int (bI p2)), (3, .long l3_29), (5, .long l5_29), (7, .int (nI k29))] [] := by
      intro r29
      induction r29 with
      | zero =>
        intro k29 l3_29 l5_29 out hb ho hk
        refine vv_iload hC 5 dX9_likely_29 rfl ?_
        refine vv_bipush (v := (64)) hC dX9_likely_31 (by decide) ?_
        refine vv_icmp_ge hC 77 dX9_likely_33 (by decide) (fun c => ?_) (fun c => False.elim (c ((nI_le_ (a := 64) (b := k29) (by omega) (by omega)).mpr (by omega))))
        refine vv_lv [0, 1, 2, 3, 4] rfl ?_
        have ho := ho.trans (by first | (simp only [f_X9_likely_L29]; done) | rfl | (simp only [f_X9_likely_L29]; rfl) : _ = (l3_29, l5_29))
        subst ho
        exact hk
      | succ r29 ih =>
        intro k29 l3_29 l5_29 out hb ho hk
        refine vv_iload hC 5 dX9_likely_29 rfl ?_
        refine vv_bipush (v := (64)) hC dX9_likely_31 (by decide) ?_
        refine vv_icmp_ge hC 77 dX9_likely_33 (by decide) (fun c => absurd ((nI_le_ (a := 64) (b := k29) (by omega) (by omega)).mp c) (by first | omega | decide)) (fun c => ?_)
        refine vv_lload_n hC 3 dX9_likely_36 rfl rfl ?_
        refine vv_aload_n hC 0 dX9_likely_37 rfl rfl ?_
        refine vv_get (v := .ref (B 25)) hC fl_X9_53 dX9_likely_38 h_m rfl ?_
        refine vv_iload hC 5 dX9_likely_41 rfl ?_
        refine vv_laldn (t := k29) hC dX9_likely_43 h_tales (by omega) (by decide) ?_
        refine vv_ladd hC dX9_likely_44 ?_
        refine vv_lstore_n (lv2 := [(3, .long (l3_29 + ((f_X9_layTales x_houses x_people x_sights now tales sight went path home).1) k29)), (0, .ref (B 0)), (1, .int p1), (2, .int (bI p2)), (5, .long l5_29), (7, .int (nI k29))]) hC dX9_likely_45 rfl (by decide) rfl ?_
        refine vv_lload hC 4 dX9_likely_46 rfl ?_
        refine vv_iload hC 5 dX9_likely_48 rfl ?_
        refine vv_iload_n hC 2 dX9_likely_50 rfl rfl ?_
        refine vv_topi (nI (tn p1)) (noOne_e (by omega) c2) ?_
        refine vv_callS hC dX9_likely_51 md_X9_has lk_m_X9_127 lk_t_X9_has (As := [.int (nI k29), .int (nI (tn p1))]) (rest := [.long l5_29]) (c_X9_has g w3 (nI k29) (nI (tn p1))) rfl rfl (Nat.le_of_ble_eq_true rfl) ⟨by decide, by decide, by decide, by decide⟩ (fun r w9 hq => ?_)
        obtain ⟨rfl, rfl⟩ := hq
        show V g X 8 w3 0 0 54 [(3, .long (l3_29 + ((f_X9_layTales x_houses x_people x_sights now tales sight went path home).1) k29)), (0, .ref (B 0)), (1, .int p1), (2, .int (bI p2)), (5, .long l5_29), (7, .int (nI k29))] [.int (bI (f_X9_has (nI k29) (nI (tn p1)))), .long l5_29]
        have hJ5 : V g X 8 w3 0 0 68 [(0, .ref (B 0)), (1, .int p1), (2, .int (bI p2)), (3, .long (l3_29 + ((f_X9_layTales x_houses x_people x_sights now tales sight went path home).1) k29)), (5, .long l5_29), (7, .int (nI k29))] [.long (if f_X9_has (nI k29) (nI (tn p1)) = true then ((f_X9_layTales x_houses x_people x_sights now tales sight went path home).1) k29 else (0 : Int64)), .long l5_29] := by
          refine vv_ladd hC dX9_likely_68 ?_
          refine vv_lstore (lv2 := [(5, .long (l5_29 + (if f_X9_has (nI k29) (nI (tn p1)) = true then ((f_X9_layTales x_houses x_people x_sights now tales sight went path home).1) k29 else (0 : Int64)))), (0, .ref (B 0)), (1, .int p1), (2, .int (bI p2)), (3, .long (l3_29 + ((f_X9_layTales x_houses x_people x_sights now tales sight went path home).1) k29)), (7, .int (nI k29))]) hC dX9_likely_69 (by decide) rfl ?_
          refine vv_iinc (lv2 := [(7, .int (nI (k29 + 1))), (5, .long (l5_29 + (if f_X9_has (nI k29) (nI (tn p1)) = true then ((f_X9_layTales x_houses x_people x_sights now tales sight went path home).1) k29 else (0 : Int64)))), (0, .ref (B 0)), (1, .int p1), (2, .int (bI p2)), (3, .long (l3_29 + ((f_X9_layTales x_houses x_people x_sights now tales sight went path home).1) k29))]) hC 5 dX9_likely_71 rfl (nI_add k29 1) (by decide) rfl ?_
          refine vv_goto hC 29 dX9_likely_74 (by decide) ?_
          refine vv_lv [2, 3, 4, 5, 1, 0] rfl ?_
          exact ih (k29 + 1) (l3_29 + ((f_X9_layTales x_houses x_people x_sights now tales sight went path home).1) k29) (l5_29 + (if f_X9_has (nI k29) (nI (tn p1)) = true then ((f_X9_layTales x_houses x_people x_sights now tales sight went path home).1) k29 else (0 : Int64))) out (by omega) (ho.trans (by first | (simp only [f_X9_likely_L29]; done) | rfl | (simp only [f_X9_likely_L29]; rfl))) hk
        refine vv_if_eq hC 67 dX9_likely_54 (by decide) (fun c4 => ?_) (fun c4 => ?_)
        · have c4 : ¬ (f_X9_has (nI k29) (nI (tn p1)) = true) := bI_f c4
          refine vv_lconst (v := 0) hC dX9_likely_67 (by decide) ?_
          refine vv_lv [1, 2, 3, 0, 4, 5] rfl ?_
          have hz := hJ5
          try simp only [if_neg c4] at hz
          first | exact hz | (simp only [if_neg c4]; exact hz)
        · have c4 : f_X9_has (nI k29) (nI (tn p1)) = true := bI_t c4
          refine vv_aload_n hC 1 dX9_likely_57 rfl rfl ?_
          refine vv_get (v := .ref (B 25)) hC fl_X9_53 dX9_likely_58 h_m rfl ?_
          refine vv_iload hC 5 dX9_likely_61 rfl ?_
          refine vv_laldn (t := k29) hC dX9_likely_63 h_tales (by omega) (by decide) ?_
          refine vv_goto hC 68 dX9_likely_64 (by decide) ?_
          refine vv_lv [1, 2, 3, 0, 4, 5] rfl ?_
          have hz := hJ5
          try simp only [if_pos c4] at hz
          first | exact hz | (simp only [if_pos c4]; exact hz)
    refine vv_lv [3, 4, 5, 2, 1, 0] rfl ?_
    refine hL6 64 0 0 0 (f_X9_likely_L29 x_houses x_people x_sights now tales sight went path home p1 64 0 0 0) (by omega) rfl ?_
    refine vv_lload_n hC 3 dX9_likely_77 rfl rfl ?_
    refine vv_lconst (v := 0) hC dX9_likely_78 (by decide) ?_
    refine vv_lcmp hC dX9_likely_79 ?_
    have hJ8 : V g X 8 w3 0 0 96 [(0, .ref (B 0)), (1, .int p1), (2, .int (bI p2)), (3, .long ((f_X9_likely_L29 x_houses x_people x_sights now tales sight went path home p1 64 0 0 0).1)), (5, .long ((f_X9_likely_L29 x_houses x_people x_sights now tales sight went path home p1 64 0 0 0).2))] [.long (f_X9_likely_x1 x_houses x_people x_sights now tales sight went path home p1 p2)] := by
      have hf : (f_X9_likely x_houses x_people x_sights now tales sight went path home p1 p2) = ((f_X9_likely_x1 x_houses x_people x_sights now tales sight went path home p1 p2), 0, (f_X9_layTales x_houses x_people x_sights now tales sight went path home).1, (f_X9_layTales x_houses x_people x_sights now tales sight went path home).2) := by first | (simp only [f_X9_likely, if_neg c2]; done) | rfl | (simp only [f_X9_likely, if_neg c2]; rfl)
      refine vv_lret hC hR rfl dX9_likely_96 (by omega) (by omega) ?_
      rw [hf]
      try dsimp only
      exact ⟨rfl, h_m, h_tales, h_went, hE⟩
    refine vv_if_ne hC 89 dX9_likely_80 (by decide) (fun c7 => ?_) (fun c7 => ?_)
    · have c7 : ¬ ((f_X9_likely_L29 x_houses x_people x_sights now tales sight went path home p1 64 0 0 0).1 = 0) := lc_ne c7
      refine vv_lload hC 4 dX9_likely_89 rfl ?_
      refine vv_lload_n hC 3 dX9_likely_91 rfl rfl ?_
      refine vv_iload_n hC 2 dX9_likely_92 rfl rfl ?_
      refine vv_callS hC dX9_likely_93 md_X9_part lk_m_X9_241 lk_t_X9_part (As := [.long ((f_X9_likely_L29 x_houses x_people x_sights now tales sight went path home p1 64 0 0 0).2), .long ((f_X9_likely_L29 x_houses x_people x_sights now tales sight went path home p1 64 0 0 0).1), .int (bI p2)]) (rest := []) (c_X9_part g w3 ((f_X9_likely_L29 x_houses x_people x_sights now tales sight went path home p1 64 0 0 0).2) ((f_X9_likely_L29 x_houses x_people x_sights now tales sight went path home p1 64 0 0 0).1) p2 ((hpe c2 c7).1) ((hpe c2 c7).2)) rfl rfl (Nat.le_of_ble_eq_true rfl) ⟨by decide, by decide, by decide, by decide⟩ (fun r w9 hq => ?_)
      obtain ⟨rfl, rfl⟩ := hq
      show V g X 8 w3 0 0 96 [(0, .ref (B 0)), (1, .int p1), (2, .int (bI p2)), (3, .long ((f_X9_likely_L29 x_houses x_people x_sights now tales sight went path home p1 64 0 0 0).1)), (5, .long ((f_X9_likely_L29 x_houses x_people x_sights now tales sight went path home p1 64 0 0 0).2))] [.long (f_X9_part ((f_X9_likely_L29 x_houses x_people x_sights now tales sight went path home p1 64 0 0 0).2) ((f_X9_likely_L29 x_houses x_people x_sights now tales sight went path home p1 64 0 0 0).1) p2)]
      have hz := hJ8
      try simp only [f_X9_likely_x1, if_neg c7] at hz
      first | exact hz | (simp only [f_X9_likely_x1, if_neg c7]; exact hz)
    · have c7 : (f_X9_likely_L29 x_houses x_people x_sights now tales sight went path home p1 64 0 0 0).1 = 0 := lc_eq c7
      refine vv_ldc2 (v := (-3)) hC lk_l_X9_239 dX9_likely_83 ?_
      refine vv_goto hC 96 dX9_likely_86 (by decide) ?_
      have hz := hJ8
      try simp only [f_X9_likely_x1, if_pos c7] at hz
      first | exact hz | (simp only [f_X9_likely_x1, if_pos c7]; exact hz)
  · have c2 : f_X9_noOne x_people p1 = true := bI_t c2
    refine vv_ldc2 (v := (-1)) hC lk_l_X9_237 dX9_likely_13 ?_
    have hf : (f_X9_likely x_houses x_people x_sights now tales sight went path home p1 p2) = ((-1), 0, tales, went) := by first | (simp only [f_X9_likely, if_pos c2]; done) | rfl | (simp only [f_X9_likely, if_pos c2]; rfl)
    refine vv_lret hC hR rfl dX9_likely_16 (by omega) (by omega) ?_
    rw [hf]
    try dsimp only
    exact ⟨rfl, h_m, h_tales, h_went, hE⟩
