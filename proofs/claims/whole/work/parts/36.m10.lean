def f_X9_layTales_L42 (x_houses : Nat) (x_people : Nat) (x_sights : Nat) (now : Nat → Int32) (sight : Nat → Int32) (path : Nat → Int32) (home : Nat → Int32) (k7 : Nat) : Nat → Nat → (Nat → Int64) → (Nat → Int32) → (Nat → Int64) × (Nat → Int32)
  | 0, k42, y_tales_42, y_went_42 => (y_tales_42, y_went_42)
  | r42 + 1, k42, y_tales_42, y_went_42 => (if 0 < y_tales_42 k7 then f_X9_layTales_L42 x_houses x_people x_sights now sight path home k7 r42 (k42 + 1) (vp_updL y_tales_42 k7 (y_tales_42 k7 * (f_X9_waysOf x_houses x_people x_sights y_went_42 sight path home now (nI k7) (nI k42)).1)) ((f_X9_waysOf x_houses x_people x_sights y_went_42 sight path home now (nI k7) (nI k42)).2) else (y_tales_42, y_went_42))
def f_X9_layTales_L7 (x_houses : Nat) (x_people : Nat) (x_sights : Nat) (now : Nat → Int32) (sight : Nat → Int32) (path : Nat → Int32) (home : Nat → Int32) : Nat → Nat → (Nat → Int64) → (Nat → Int32) → (Nat → Int64) × (Nat → Int32)
  | 0, k7, y_tales_7, y_went_7 => (y_tales_7, y_went_7)
  | r7 + 1, k7, y_tales_7, y_went_7 => f_X9_layTales_L7 x_houses x_people x_sights now sight path home r7 (k7 + 1) ((f_X9_layTales_L42 x_houses x_people x_sights now sight path home k7 3 0 (vp_updL y_tales_7 k7 (if (nI k7 &&& (f_X9_there x_people now ^^^ (-1))) = 0 then (if f_X9_isTaken x_people x_sights sight now (nI k7) = true then (1 : Int64) else (0 : Int64)) else (0 : Int64))) y_went_7).1) ((f_X9_layTales_L42 x_houses x_people x_sights now sight path home k7 3 0 (vp_updL y_tales_7 k7 (if (nI k7 &&& (f_X9_there x_people now ^^^ (-1))) = 0 then (if f_X9_isTaken x_people x_sights sight now (nI k7) = true then (1 : Int64) else (0 : Int64)) else (0 : Int64))) y_went_7).2)
def f_X9_layTales (x_houses : Nat) (x_people : Nat) (x_sights : Nat) (now : Nat → Int32) (tales : Nat → Int64) (sight : Nat → Int32) (went : Nat → Int32) (path : Nat → Int32) (home : Nat → Int32) : (Nat → Int64) × (Nat → Int32) := ((f_X9_layTales_L7 x_houses x_people x_sights now sight path home 64 0 tales went).1, (f_X9_layTales_L7 x_houses x_people x_sights now sight path home 64 0 tales went).2)
set_option maxHeartbeats 4000000 in
set_option maxRecDepth 100000 in
theorem c_X9_layTales (g : GT) (w0 : Wd) (B : Nat → Nat) (hB : ∀ i j, i < 60 → j < 60 → B i = B j → i = j) (x_thrown : Int32) (x_houses : Nat) (x_people : Nat) (x_paths : Nat) (x_acts : Nat) (x_size : Nat) (x_at : Nat) (x_readHouses : Nat) (x_readPeople : Nat) (x_readPaths : Nat) (x_sights : Nat) (x_drawn : Int64) (now : Nat → Int32) (tales : Nat → Int64) (sight : Nat → Int32) (went : Nat → Int32) (path : Nat → Int32) (home : Nat → Int32) (hxp : x_people ≤ 6) (hxh : x_houses ≤ 4) (hom : ∀ q, q < 6 → home q = nI (tn (home q)) ∧ tn (home q) < 4) (hsi : x_sights ≤ 6) (hendW : ∀ (set moon : Int32) (w : Nat → Int32), f_X9_waysOf_L26_E x_houses x_people x_sights sight path home now set moon fuelW 0 true (f_X9_waysOf_L2 6 0 w) = true) (h_m : w0 (B 0) = some (.inr (9, cM B (x_thrown, x_houses, x_people, x_paths, x_acts, x_size, x_at, x_readHouses, x_readPeople, x_readPaths, x_sights, x_drawn)))) (h_now : w0 (B 7) = some (.inl (g.2.2.1 0, 43, .inl now))) (h_tales : w0 (B 25) = some (.inl (g.2.2.1 1, 64, .inr (.inl tales)))) (h_sight : w0 (B 22) = some (.inl (g.2.2.1 0, 24, .inl sight))) (h_went : w0 (B 24) = some (.inl (g.2.2.1 0, 6, .inl went))) (h_path : w0 (B 4) = some (.inl (g.2.2.1 0, 16, .inl path))) (h_home : w0 (B 5) = some (.inl (g.2.2.1 0, 6, .inl home))) : CT g yX9_layTales cX9_layTales 4 none 4 99 0 0 w0 [.ref (B 0)] (fun r w2 => r = none ∧ w2 (B 25) = some (.inl (g.2.2.1 1, 64, .inr (.inl ((f_X9_layTales x_houses x_people x_sights now tales sight went path home).1)))) ∧ w2 (B 24) = some (.inl (g.2.2.1 0, 6, .inl ((f_X9_layTales x_houses x_people x_sights now tales sight went path home).2))) ∧ wE (fun q => q = (B 25) ∨ q = (B 24)) w0 w2) := by
  refine CT.of (own := RX9) (by decide +kernel) rfl (Nat.le_of_ble_eq_true rfl) (fun X hC hR hI => ?_)
  show V g X 4 w0 0 0 0 [(0, .ref (B 0))] []
  have hE : wE (fun q => q = (B 25) ∨ q = (B 24)) w0 w0 := wE.refl
  refine vv_aload_n hC 0 dX9_layTales_0 rfl rfl ?_
  refine vv_callV hC dX9_layTales_1 md_X9_there lk_m_X9_218 lk_i_X9_there lk_s_X9_there h_m rfl (As := []) (rest := []) (c_X9_there g w0 B hB x_thrown x_houses x_people x_paths x_acts x_size x_at x_readHouses x_readPeople x_readPaths x_sights x_drawn now (by omega) h_m h_now) rfl rfl (Nat.le_of_ble_eq_true rfl) ⟨by decide, by decide, by decide, by decide⟩ (fun r w9 hq => ?_)
  obtain ⟨rfl, rfl⟩ := hq
  show V g X 4 w0 0 0 4 [(0, .ref (B 0))] [.int (f_X9_there x_people now)]
  refine vv_istore_n (lv2 := [(1, .int (f_X9_there x_people now)), (0, .ref (B 0))]) hC dX9_layTales_4 rfl (by decide) rfl ?_
  refine vv_iconst (v := 0) hC dX9_layTales_5 (by decide) ?_
  refine vv_istore_n (lv2 := [(2, .int 0), (1, .int (f_X9_there x_people now)), (0, .ref (B 0))]) hC dX9_layTales_6 rfl (by decide) rfl ?_
  have hL13 : ∀ (r7 k7 : Nat) (y_tales_7 : Nat → Int64) (y_went_7 : Nat → Int32) (w1 : Wd) (out : (Nat → Int64) × (Nat → Int32)), k7 + r7 = 64 → out = f_X9_layTales_L7 x_houses x_people x_sights now sight path home r7 k7 y_tales_7 y_went_7 → w1 (B 0) = some (.inr (9, cM B (x_thrown, x_houses, x_people, x_paths, x_acts, x_size, x_at, x_readHouses, x_readPeople, x_readPaths, x_sights, x_drawn))) → w1 (B 7) = some (.inl (g.2.2.1 0, 43, .inl now)) → w1 (B 25) = some (.inl (g.2.2.1 1, 64, .inr (.inl y_tales_7))) → w1 (B 22) = some (.inl (g.2.2.1 0, 24, .inl sight)) → w1 (B 24) = some (.inl (g.2.2.1 0, 6, .inl y_went_7)) → w1 (B 4) = some (.inl (g.2.2.1 0, 16, .inl path)) → w1 (B 5) = some (.inl (g.2.2.1 0, 6, .inl home)) → wE (fun q => q = (B 25) ∨ q = (B 24)) w0 w1 → (∀ w12 : Wd, w12 (B 0) = some (.inr (9, cM B (x_thrown, x_houses, x_people, x_paths, x_acts, x_size, x_at, x_readHouses, x_readPeople, x_readPaths, x_sights, x_drawn))) → w12 (B 7) = some (.inl (g.2.2.1 0, 43, .inl now)) → w12 (B 25) = some (.inl (g.2.2.1 1, 64, .inr (.inl out.1))) → w12 (B 22) = some (.inl (g.2.2.1 0, 24, .inl sight)) → w12 (B 24) = some (.inl (g.2.2.1 0, 6, .inl out.2)) → w12 (B 4) = some (.inl (g.2.2.1 0, 16, .inl path)) → w12 (B 5) = some (.inl (g.2.2.1 0, 6, .inl home)) → wE (fun q => q = (B 25) ∨ q = (B 24)) w0 w12 → V g X 4 w12 0 0 85 [(0, .ref (B 0)), (1, .int (f_X9_there x_people now))] []) → V g X 4 w1 0 0 7 [(0, .ref (B 0)), (1, .int (f_X9_there x_people now)), (2, .int (nI k7))] [] := by
    intro r7
    induction r7 with
    | zero =>
      intro k7 y_tales_7 y_went_7 w1 out hb ho h_m h_now h_tales h_sight h_went h_path h_home hE hk
      refine vv_iload_n hC 2 dX9_layTales_7 rfl rfl ?_
      refine vv_bipush (v := (64)) hC dX9_layTales_8 (by decide) ?_
      refine vv_icmp_ge hC 85 dX9_layTales_10 (by decide) (fun c => ?_) (fun c => False.elim (c ((nI_le_ (a := 64) (b := k7) (by omega) (by omega)).mpr (by omega))))
      refine vv_lv [0, 1] rfl ?_
      have ho := ho.trans (by first | (simp only [f_X9_layTales_L7]; done) | rfl | (simp only [f_X9_layTales_L7]; rfl) : _ = (y_tales_7, y_went_7))
      subst ho
      exact hk w1 h_m h_now h_tales h_sight h_went h_path h_home hE
    | succ r7 ih =>
      intro k7 y_tales_7 y_went_7 w1 out hb ho h_m h_now h_tales h_sight h_went h_path h_home hE hk
      refine vv_iload_n hC 2 dX9_layTales_7 rfl rfl ?_
      refine vv_bipush (v := (64)) hC dX9_layTales_8 (by decide) ?_
      refine vv_icmp_ge hC 85 dX9_layTales_10 (by decide) (fun c => absurd ((nI_le_ (a := 64) (b := k7) (by omega) (by omega)).mp c) (by first | omega | decide)) (fun c => ?_)
      refine vv_aload_n hC 0 dX9_layTales_13 rfl rfl ?_
      refine vv_get (v := .ref (B 25)) hC fl_X9_53 dX9_layTales_14 h_m rfl ?_
      refine vv_iload_n hC 2 dX9_layTales_17 rfl rfl ?_
      refine vv_iload_n hC 2 dX9_layTales_18 rfl rfl ?_
      refine vv_iload_n hC 1 dX9_layTales_19 rfl rfl ?_
      refine vv_iconst (v := (-1)) hC dX9_layTales_20 (by decide) ?_
      refine vv_ixor hC dX9_layTales_21 ?_
      refine vv_iand hC dX9_layTales_22 ?_
      have hJ3 : V g X 4 w1 0 0 39 [(0, .ref (B 0)), (1, .int (f_X9_there x_people now)), (2, .int (nI k7))] [.long (if (nI k7 &&& (f_X9_there x_people now ^^^ (-1))) = 0 then (if f_X9_isTaken x_people x_sights sight now (nI k7) = true then (1 : Int64) else (0 : Int64)) else (0 : Int64)), .int (nI k7), .ref (B 25)] := by
        refine vv_lastn (t := k7) hC dX9_layTales_39 h_tales (by omega) (by decide) (fun w5 t1 hs => ?_)
        have t1 : w5 (B 25) = some (.inl (g.2.2.1 1, 64, .inr (.inl (vp_updL y_tales_7 k7 (if (nI k7 &&& (f_X9_there x_people now ^^^ (-1))) = 0 then (if f_X9_isTaken x_people x_sights sight now (nI k7) = true then (1 : Int64) else (0 : Int64)) else (0 : Int64)))))) := t1
        have h_m := hs _ _ (fw_oa h_m h_tales) h_m
        have h_now := hs _ _ (fw_inj hB (by decide) (by decide) (by decide)) h_now
        have h_sight := hs _ _ (fw_inj hB (by decide) (by decide) (by decide)) h_sight
        have h_went := hs _ _ (fw_inj hB (by decide) (by decide) (by decide)) h_went
        have h_path := hs _ _ (fw_inj hB (by decide) (by decide) (by decide)) h_path
        have h_home := hs _ _ (fw_inj hB (by decide) (by decide) (by decide)) h_home
        have h_tales := t1
        have hE := hE.trans (hs.mono (fun _ z => (Or.inl z)))
        refine vv_iconst (v := 0) hC dX9_layTales_40 (by decide) ?_
        refine vv_istore_n (lv2 := [(3, .int 0), (0, .ref (B 0)), (1, .int (f_X9_there x_people now)), (2, .int (nI k7))]) hC dX9_layTales_41 rfl (by decide) rfl ?_
        have hL11 : ∀ (r42 k42 : Nat) (y_tales_42 : Nat → Int64) (y_went_42 : Nat → Int32) (w6 : Wd) (out : (Nat → Int64) × (Nat → Int32)), k42 + r42 = 3 → out = f_X9_layTales_L42 x_houses x_people x_sights now sight path home k7 r42 k42 y_tales_42 y_went_42 → w6 (B 0) = some (.inr (9, cM B (x_thrown, x_houses, x_people, x_paths, x_acts, x_size, x_at, x_readHouses, x_readPeople, x_readPaths, x_sights, x_drawn))) → w6 (B 7) = some (.inl (g.2.2.1 0, 43, .inl now)) → w6 (B 25) = some (.inl (g.2.2.1 1, 64, .inr (.inl y_tales_42))) → w6 (B 22) = some (.inl (g.2.2.1 0, 24, .inl sight)) → w6 (B 24) = some (.inl (g.2.2.1 0, 6, .inl y_went_42)) → w6 (B 4) = some (.inl (g.2.2.1 0, 16, .inl path)) → w6 (B 5) = some (.inl (g.2.2.1 0, 6, .inl home)) → wE (fun q => q = (B 25) ∨ q = (B 24)) w0 w6 → (∀ w10 : Wd, w10 (B 0) = some (.inr (9, cM B (x_thrown, x_houses, x_people, x_paths, x_acts, x_size, x_at, x_readHouses, x_readPeople, x_readPaths, x_sights, x_drawn))) → w10 (B 7) = some (.inl (g.2.2.1 0, 43, .inl now)) → w10 (B 25) = some (.inl (g.2.2.1 1, 64, .inr (.inl out.1))) → w10 (B 22) = some (.inl (g.2.2.1 0, 24, .inl sight)) → w10 (B 24) = some (.inl (g.2.2.1 0, 6, .inl out.2)) → w10 (B 4) = some (.inl (g.2.2.1 0, 16, .inl path)) → w10 (B 5) = some (.inl (g.2.2.1 0, 6, .inl home)) → wE (fun q => q = (B 25) ∨ q = (B 24)) w0 w10 → V g X 4 w10 0 0 79 [(0, .ref (B 0)), (1, .int (f_X9_there x_people now)), (2, .int (nI k7))] []) → V g X 4 w6 0 0 42 [(0, .ref (B 0)), (1, .int (f_X9_there x_people now)), (2, .int (nI k7)), (3, .int (nI k42))] [] := by
          intro r42
          induction r42 with
          | zero =>
            intro k42 y_tales_42 y_went_42 w6 out hb ho h_m h_now h_tales h_sight h_went h_path h_home hE hk
            refine vv_iload_n hC 3 dX9_layTales_42 rfl rfl ?_
            refine vv_iconst (v := 3) hC dX9_layTales_43 (by decide) ?_
            refine vv_icmp_ge hC 79 dX9_layTales_44 (by decide) (fun c => ?_) (fun c => False.elim (c ((nI_le_ (a := 3) (b := k42) (by omega) (by omega)).mpr (by omega))))
            refine vv_lv [0, 1, 2] rfl ?_
            have ho := ho.trans (by first | (simp only [f_X9_layTales_L42]; done) | rfl | (simp only [f_X9_layTales_L42]; rfl) : _ = (y_tales_42, y_went_42))
            subst ho
            exact hk w6 h_m h_now h_tales h_sight h_went h_path h_home hE
          | succ r42 ih =>
            intro k42 y_tales_42 y_went_42 w6 out hb ho h_m h_now h_tales h_sight h_went h_path h_home hE hk
            refine vv_iload_n hC 3 dX9_layTales_42 rfl rfl ?_
            refine vv_iconst (v := 3) hC dX9_layTales_43 (by decide) ?_
            refine vv_icmp_ge hC 79 dX9_layTales_44 (by decide) (fun c => absurd ((nI_le_ (a := 3) (b := k42) (by omega) (by omega)).mp c) (by first | omega | decide)) (fun c => ?_)
            refine vv_aload_n hC 0 dX9_layTales_47 rfl rfl ?_
            refine vv_get (v := .ref (B 25)) hC fl_X9_53 dX9_layTales_48 h_m rfl ?_
            refine vv_iload_n hC 2 dX9_layTales_51 rfl rfl ?_
            refine vv_laldn (t := k7) hC dX9_layTales_52 h_tales (by omega) (by decide) ?_
            refine vv_lconst (v := 0) hC dX9_layTales_53 (by decide) ?_
            refine vv_lcmp hC dX9_layTales_54 ?_
            refine vv_if_le hC 79 dX9_layTales_55 (by decide) (fun c7 => ?_) (fun c7 => ?_)
            · have c7 : ¬ (0 < y_tales_42 k7) := lc_le c7
              refine vv_lv [0, 1, 2] rfl ?_
              have ho := ho.trans (by first | (simp only [f_X9_layTales_L42, if_neg c7]; done) | rfl | (simp only [f_X9_layTales_L42, if_neg c7]; rfl) : _ = (y_tales_42, y_went_42))
              subst ho
              exact hk w6 h_m h_now h_tales h_sight h_went h_path h_home hE
            · have c7 : 0 < y_tales_42 k7 := lc_nle c7
              refine vv_aload_n hC 0 dX9_layTales_58 rfl rfl ?_
              refine vv_get (v := .ref (B 25)) hC fl_X9_53 dX9_layTales_59 h_m rfl ?_
              refine vv_iload_n hC 2 dX9_layTales_62 rfl rfl ?_
              refine vv_dup2_11 hC dX9_layTales_63 rfl rfl ?_
              refine vv_laldn (t := k7) hC dX9_layTales_64 h_tales (by omega) (by decide) ?_
              refine vv_aload_n hC 0 dX9_layTales_65 rfl rfl ?_
              refine vv_iload_n hC 2 dX9_layTales_66 rfl rfl ?_
              refine vv_iload_n hC 3 dX9_layTales_67 rfl rfl ?_
              refine vv_callV hC dX9_layTales_68 md_X9_waysOf lk_m_X9_224 lk_i_X9_waysOf lk_s_X9_waysOf h_m rfl (As := [.int (nI k7), .int (nI k42)]) (rest := [.long (y_tales_42 k7), .int (nI k7), .ref (B 25)]) (c_X9_waysOf g w6 B hB x_thrown x_houses x_people x_paths x_acts x_size x_at x_readHouses x_readPeople x_readPaths x_sights x_drawn y_went_42 sight path home now (nI k7) (nI k42) (by omega) (by omega) (hom) (by omega) (hendW _ _ _) h_m h_went h_sight h_path h_home h_now) rfl rfl (Nat.le_of_ble_eq_true rfl) ⟨by decide, by decide, by decide, by decide⟩ (fun r w9 hq => ?_)
              obtain ⟨rfl, t1, hs⟩ := hq
              obtain ⟨w8, rfl⟩ : ∃ z, z = w9 := ⟨_, rfl⟩
              have h_m := hs _ _ (fw_oa h_m h_went) h_m
              have h_now := hs _ _ (fw_inj hB (by decide) (by decide) (by decide)) h_now
              have h_tales := hs _ _ (fw_inj hB (by decide) (by decide) (by decide)) h_tales
              have h_sight := hs _ _ (fw_inj hB (by decide) (by decide) (by decide)) h_sight
              have h_path := hs _ _ (fw_inj hB (by decide) (by decide) (by decide)) h_path
              have h_home := hs _ _ (fw_inj hB (by decide) (by decide) (by decide)) h_home
              have h_went := t1
              have hE := hE.trans (hs.mono (fun _ z => (Or.inr z)))
              show V g X 4 w8 0 0 71 [(0, .ref (B 0)), (1, .int (f_X9_there x_people now)), (2, .int (nI k7)), (3, .int (nI k42))] [.long ((f_X9_waysOf x_houses x_people x_sights y_went_42 sight path home now (nI k7) (nI k42)).1), .long (y_tales_42 k7), .int (nI k7), .ref (B 25)]
              refine vv_lmul hC dX9_layTales_71 ?_
              refine vv_lastn (t := k7) hC dX9_layTales_72 h_tales (by omega) (by decide) (fun w9 t1 hs => ?_)
              have t1 : w9 (B 25) = some (.inl (g.2.2.1 1, 64, .inr (.inl (vp_updL y_tales_42 k7 (y_tales_42 k7 * (f_X9_waysOf x_houses x_people x_sights y_went_42 sight path home now (nI k7) (nI k42)).1))))) := t1
              have h_m := hs _ _ (fw_oa h_m h_tales) h_m
              have h_now := hs _ _ (fw_inj hB (by decide) (by decide) (by decide)) h_now
              have h_sight := hs _ _ (fw_inj hB (by decide) (by decide) (by decide)) h_sight
              have h_went := hs _ _ (fw_inj hB (by decide) (by decide) (by decide)) h_went
              have h_path := hs _ _ (fw_inj hB (by decide) (by decide) (by decide)) h_path
              have h_home := hs _ _ (fw_inj hB (by decide) (by decide) (by decide)) h_home
              have h_tales := t1
              have hE := hE.trans (hs.mono (fun _ z => (Or.inl z)))
              refine vv_iinc (lv2 := [(3, .int (nI (k42 + 1))), (0, .ref (B 0)), (1, .int (f_X9_there x_people now)), (2, .int (nI k7))]) hC 3 dX9_layTales_73 rfl (nI_add k42 1) (by decide) rfl ?_
              refine vv_goto hC 42 dX9_layTales_76 (by decide) ?_
              refine vv_lv [1, 2, 3, 0] rfl ?_
              exact ih (k42 + 1) (vp_updL y_tales_42 k7 (y_tales_42 k7 * (f_X9_waysOf x_houses x_people x_sights y_went_42 sight path home now (nI k7) (nI k42)).1)) ((f_X9_waysOf x_houses x_people x_sights y_went_42 sight path home now (nI k7) (nI k42)).2) w9 out (by omega) (ho.trans (by first | (simp only [f_X9_layTales_L42, if_pos c7]; done) | rfl | (simp only [f_X9_layTales_L42, if_pos c7]; rfl))) h_m h_now h_tales h_sight h_went h_path h_home hE hk
        refine vv_lv [1, 2, 3, 0] rfl ?_
        refine hL11 3 0 (vp_updL y_tales_7 k7 (if (nI k7 &&& (f_X9_there x_people now ^^^ (-1))) = 0 then (if f_X9_isTaken x_people x_sights sight now (nI k7) = true then (1 : Int64) else (0 : Int64)) else (0 : Int64))) y_went_7 w5 (f_X9_layTales_L42 x_houses x_people x_sights now sight path home k7 3 0 (vp_updL y_tales_7 k7 (if (nI k7 &&& (f_X9_there x_people now ^^^ (-1))) = 0 then (if f_X9_isTaken x_people x_sights sight now (nI k7) = true then (1 : Int64) else (0 : Int64)) else (0 : Int64))) y_went_7) (by omega) rfl h_m h_now h_tales h_sight h_went h_path h_home hE ?_
        intro w10 h_m h_now h_tales h_sight h_went h_path h_home hE
        refine vv_iinc (lv2 := [(2, .int (nI (k7 + 1))), (0, .ref (B 0)), (1, .int (f_X9_there x_people now))]) hC 2 dX9_layTales_79 rfl (nI_add k7 1) (by decide) rfl ?_
        refine vv_goto hC 7 dX9_layTales_82 (by decide) ?_
        refine vv_lv [1, 2, 0] rfl ?_
        exact ih (k7 + 1) ((f_X9_layTales_L42 x_houses x_people x_sights now sight path home k7 3 0 (vp_updL y_tales_7 k7 (if (nI k7 &&& (f_X9_there x_people now ^^^ (-1))) = 0 then (if f_X9_isTaken x_people x_sights sight now (nI k7) = true then (1 : Int64) else (0 : Int64)) else (0 : Int64))) y_went_7).1) ((f_X9_layTales_L42 x_houses x_people x_sights now sight path home k7 3 0 (vp_updL y_tales_7 k7 (if (nI k7 &&& (f_X9_there x_people now ^^^ (-1))) = 0 then (if f_X9_isTaken x_people x_sights sight now (nI k7) = true then (1 : Int64) else (0 : Int64)) else (0 : Int64))) y_went_7).2) w10 out (by omega) (ho.trans (by first | (simp only [f_X9_layTales_L7]; done) | rfl | (simp only [f_X9_layTales_L7]; rfl))) h_m h_now h_tales h_sight h_went h_path h_home hE hk
      refine vv_if_ne hC 38 dX9_layTales_23 (by decide) (fun c2 => ?_) (fun c2 => ?_)
      · have c2 : ¬ ((nI k7 &&& (f_X9_there x_people now ^^^ (-1))) = 0) := c2
        refine vv_lconst (v := 0) hC dX9_layTales_38 (by decide) ?_
        have hz := hJ3
        try simp only [if_neg c2] at hz
        first | exact hz | (simp only [if_neg c2]; exact hz)
      · have c2 : (nI k7 &&& (f_X9_there x_people now ^^^ (-1))) = 0 := c2
        refine vv_aload_n hC 0 dX9_layTales_26 rfl rfl ?_
        refine vv_iload_n hC 2 dX9_layTales_27 rfl rfl ?_
        refine vv_callV hC dX9_layTales_28 md_X9_isTaken lk_m_X9_221 lk_i_X9_isTaken lk_s_X9_isTaken h_m rfl (As := [.int (nI k7)]) (rest := [.int (nI k7), .ref (B 25)]) (c_X9_isTaken g w1 B hB x_thrown x_houses x_people x_paths x_acts x_size x_at x_readHouses x_readPeople x_readPaths x_sights x_drawn sight now (nI k7) (by omega) (by omega) h_m h_sight h_now) rfl rfl (Nat.le_of_ble_eq_true rfl) ⟨by decide, by decide, by decide, by decide⟩ (fun r w9 hq => ?_)
        obtain ⟨rfl, rfl⟩ := hq
        show V g X 4 w1 0 0 31 [(0, .ref (B 0)), (1, .int (f_X9_there x_people now)), (2, .int (nI k7))] [.int (bI (f_X9_isTaken x_people x_sights sight now (nI k7))), .int (nI k7), .ref (B 25)]
        refine vv_if_eq hC 38 dX9_layTales_31 (by decide) (fun c4 => ?_) (fun c4 => ?_)
        · have c4 : ¬ (f_X9_isTaken x_people x_sights sight now (nI k7) = true) := bI_f c4
          refine vv_lconst (v := 0) hC dX9_layTales_38 (by decide) ?_
          have hz := hJ3
          try simp only [if_pos c2, if_neg c4] at hz
          first | exact hz | (simp only [if_pos c2, if_neg c4]; exact hz)
        · have c4 : f_X9_isTaken x_people x_sights sight now (nI k7) = true := bI_t c4
          refine vv_lconst (v := 1) hC dX9_layTales_34 (by decide) ?_
          refine vv_goto hC 39 dX9_layTales_35 (by decide) ?_
          have hz := hJ3
          try simp only [if_pos c2, if_pos c4] at hz
          first | exact hz | (simp only [if_pos c2, if_pos c4]; exact hz)
  refine vv_lv [2, 1, 0] rfl ?_
  refine hL13 64 0 tales went w0 (f_X9_layTales_L7 x_houses x_people x_sights now sight path home 64 0 tales went) (by omega) rfl h_m h_now h_tales h_sight h_went h_path h_home hE ?_
  intro w12 h_m h_now h_tales h_sight h_went h_path h_home hE
  have hf : (f_X9_layTales x_houses x_people x_sights now tales sight went path home) = ((f_X9_layTales_L7 x_houses x_people x_sights now sight path home 64 0 tales went).1, (f_X9_layTales_L7 x_houses x_people x_sights now sight path home 64 0 tales went).2) := by first | (simp only [f_X9_layTales]; done) | rfl | (simp only [f_X9_layTales]; rfl)
  refine vv_vret hC hR rfl dX9_layTales_85 (by omega) (by omega) ?_
  rw [hf]
  try dsimp only
  exact ⟨rfl, h_tales, h_went, hE⟩
def f_X9_tales_L13 (x_houses : Nat) (x_people : Nat) (x_sights : Nat) (now : Nat → Int32) (tales : Nat → Int64) (sight : Nat → Int32) (went : Nat → Int32) (path : Nat → Int32) (home : Nat → Int32) : Nat → Nat → Int64 → Int64
  | 0, k13, l1_13 => l1_13
  | r13 + 1, k13, l1_13 => f_X9_tales_L13 x_houses x_people x_sights now tales sight went path home r13 (k13 + 1) (l1_13 + ((f_X9_layTales x_houses x_people x_sights now tales sight went path home).1) k13)
def f_X9_tales (x_houses : Nat) (x_people : Nat) (x_sights : Nat) (now : Nat → Int32) (tales : Nat → Int64) (sight : Nat → Int32) (went : Nat → Int32) (path : Nat → Int32) (home : Nat → Int32) : Int64 × Int32 × (Nat → Int64) × (Nat → Int32) := ((f_X9_tales_L13 x_houses x_people x_sights now tales sight went path home 64 0 0), 0, (f_X9_layTales x_houses x_people x_sights now tales sight went path home).1, (f_X9_layTales x_houses x_people x_sights now tales sight went path home).2)
set_option maxHeartbeats 4000000 in
set_option maxRecDepth 100000 in
theorem c_X9_tales (g : GT) (w0 : Wd) (B : Nat → Nat) (hB : ∀ i j, i < 60 → j < 60 → B i = B j → i = j) (x_thrown : Int32) (x_houses : Nat) (x_people : Nat) (x_paths : Nat) (x_acts : Nat) (x_size : Nat) (x_at : Nat) (x_readHouses : Nat) (x_readPeople : Nat) (x_readPaths : Nat) (x_sights : Nat) (x_drawn : Int64) (now : Nat → Int32) (tales : Nat → Int64) (sight : Nat → Int32) (went : Nat → Int32) (path : Nat → Int32) (home : Nat → Int32) (hxp : x_people ≤ 6) (hxh : x_houses ≤ 4) (hom : ∀ q, q < 6 → home q = nI (tn (home q)) ∧ tn (home q) < 4) (hsi : x_sights ≤ 6) (hendW : ∀ (set moon : Int32) (w : Nat → Int32), f_X9_waysOf_L26_E x_houses x_people x_sights sight path home now set moon fuelW 0 true (f_X9_waysOf_L2 6 0 w) = true) (h_m : w0 (B 0) = some (.inr (9, cM B (x_thrown, x_houses, x_people, x_paths, x_acts, x_size, x_at, x_readHouses, x_readPeople, x_readPaths, x_sights, x_drawn)))) (h_now : w0 (B 7) = some (.inl (g.2.2.1 0, 43, .inl now))) (h_tales : w0 (B 25) = some (.inl (g.2.2.1 1, 64, .inr (.inl tales)))) (h_sight : w0 (B 22) = some (.inl (g.2.2.1 0, 24, .inl sight))) (h_went : w0 (B 24) = some (.inl (g.2.2.1 0, 6, .inl went))) (h_path : w0 (B 4) = some (.inl (g.2.2.1 0, 16, .inl path))) (h_home : w0 (B 5) = some (.inl (g.2.2.1 0, 6, .inl home))) : CT g yX9_tales cX9_tales 4 (some .long) 5 122 0 0 w0 [.ref (B 0)] (fun r w2 => r = some (.long ((f_X9_tales x_houses x_people x_sights now tales sight went path home).1)) ∧ w2 (B 0) = some (.inr (9, cM B ((f_X9_tales x_houses x_people x_sights now tales sight went path home).2.1, x_houses, x_people, x_paths, x_acts, x_size, x_at, x_readHouses, x_readPeople, x_readPaths, x_sights, x_drawn))) ∧ w2 (B 25) = some (.inl (g.2.2.1 1, 64, .inr (.inl ((f_X9_tales x_houses x_people x_sights now tales sight went path home).2.2.1)))) ∧ w2 (B 24) = some (.inl (g.2.2.1 0, 6, .inl ((f_X9_tales x_houses x_people x_sights now tales sight went path home).2.2.2))) ∧ wE (fun q => q = (B 0) ∨ q = (B 25) ∨ q = (B 24)) w0 w2) := by
  refine CT.of (own := RX9) (by decide +kernel) rfl (Nat.le_of_ble_eq_true rfl) (fun X hC hR hI => ?_)
  show V g X 4 w0 0 0 0 [(0, .ref (B 0))] []
  have hE : wE (fun q => q = (B 0) ∨ q = (B 25) ∨ q = (B 24)) w0 w0 := wE.refl
  refine vv_aload_n hC 0 dX9_tales_0 rfl rfl ?_
  refine vv_iconst (v := 0) hC dX9_tales_1 (by decide) ?_
  refine vv_put hC fp_X9_69 dX9_tales_2 h_m rfl rfl (Nat.le_of_ble_eq_true rfl) (fun w1 t1 hs => ?_)
  have t1 : w1 (B 0) = some (.inr (9, cM B (0, x_houses, x_people, x_paths, x_acts, x_size, x_at, x_readHouses, x_readPeople, x_readPaths, x_sights, x_drawn))) := t1.trans (congrArg (fun z => some (Sum.inr (9, z))) (eM_thrown _ _ _ _ _ _ _ _ _ _ _ _ _ _))
  have h_now := hs _ _ (fw_ao h_now h_m) h_now
  have h_tales := hs _ _ (fw_ao h_tales h_m) h_tales
  have h_sight := hs _ _ (fw_ao h_sight h_m) h_sight
  have h_went := hs _ _ (fw_ao h_went h_m) h_went
  have h_path := hs _ _ (fw_ao h_path h_m) h_path
  have h_home := hs _ _ (fw_ao h_home h_m) h_home
  have h_m := t1
  have hE := hE.trans (hs.mono (fun _ z => (Or.inl z)))
  refine vv_aload_n hC 0 dX9_tales_5 rfl rfl ?_
  refine vv_callV hC dX9_tales_6 md_X9_layTales lk_m_X9_228 lk_i_X9_layTales lk_s_X9_layTales h_m rfl (As := []) (rest := []) (c_X9_layTales g w1 B hB 0 x_houses x_people x_paths x_acts x_size x_at x_readHouses x_readPeople x_readPaths x_sights x_drawn now tales sight went path home (by omega) (by omega) (hom) (by omega) (hendW) h_m h_now h_tales h_sight h_went h_path h_home) rfl rfl (Nat.le_of_ble_eq_true rfl) ⟨by decide, by decide, by decide, by decide⟩ (fun r w9 hq => ?_)
  obtain ⟨rfl, t1, t2, hs⟩ := hq
  obtain ⟨w2, rfl⟩ : ∃ z, z = w9 := ⟨_, rfl⟩
  have h_m := hs _ _ (fun z => z.elim (fw_oa h_m h_tales) (fw_oa h_m h_went)) h_m
  have h_now := hs _ _ (fun z => z.elim (fw_inj hB (by decide) (by decide) (by decide)) (fw_inj hB (by decide) (by decide) (by decide))) h_now
  have h_sight := hs _ _ (fun z => z.elim (fw_inj hB (by decide) (by decide) (by decide)) (fw_inj hB (by decide) (by decide) (by decide))) h_sight
  have h_path := hs _ _ (fun z => z.elim (fw_inj hB (by decide) (by decide) (by decide)) (fw_inj hB (by decide) (by decide) (by decide))) h_path
  have h_home := hs _ _ (fun z => z.elim (fw_inj hB (by decide) (by decide) (by decide)) (fw_inj hB (by decide) (by decide) (by decide))) h_home
  have h_tales := t1
  have h_went := t2
  have hE := hE.trans (hs.mono (fun _ z => z.elim (fun z => (Or.inr (Or.inl z))) (fun z => (Or.inr (Or.inr z)))))
  show V g X 4 w2 0 0 9 [(0, .ref (B 0))] []
  refine vv_lconst (v := 0) hC dX9_tales_9 (by decide) ?_
  refine vv_lstore_n (lv2 := [(1, .long 0), (0, .ref (B 0))]) hC dX9_tales_10 rfl (by decide) rfl ?_
  refine vv_iconst (v := 0) hC dX9_tales_11 (by decide) ?_
  refine vv_istore_n (lv2 := [(3, .int 0), (1, .long 0), (0, .ref (B 0))]) hC dX9_tales_12 rfl (by decide) rfl ?_
  have hL3 : ∀ (r13 k13 : Nat) (l1_13 : Int64) (out : Int64), k13 + r13 = 64 → out = f_X9_tales_L13 x_houses x_people x_sights now tales sight went path home r13 k13 l1_13 → V g X 4 w2 0 0 34 [(0, .ref (B 0)), (1, .long out)] [] → V g X 4 w2 0 0 13 [(0, .ref (B 0)), (1, .long l1_13), (3, .int (nI k13))] [] := by
    intro r13
    induction r13 with
    | zero =>
      intro k13 l1_13 out hb ho hk
      refine vv_iload_n hC 2 dX9_tales_13 rfl rfl ?_
      refine vv_bipush (v := (64)) hC dX9_tales_14 (by decide) ?_
      refine vv_icmp_ge hC 34 dX9_tales_16 (by decide) (fun c => ?_) (fun c => False.elim (c ((nI_le_ (a := 64) (b := k13) (by omega) (by omega)).mpr (by omega))))
      refine vv_lv [0, 1] rfl ?_
      have ho := ho.trans (by first | (simp only [f_X9_tales_L13]; done) | rfl | (simp only [f_X9_tales_L13]; rfl) : _ = l1_13)
      subst ho
      exact hk
    | succ r13 ih =>
      intro k13 l1_13 out hb ho hk
      refine vv_iload_n hC 2 dX9_tales_13 rfl rfl ?_
      refine vv_bipush (v := (64)) hC dX9_tales_14 (by decide) ?_
      refine vv_icmp_ge hC 34 dX9_tales_16 (by decide) (fun c => absurd ((nI_le_ (a := 64) (b := k13) (by omega) (by omega)).mp c) (by first | omega | decide)) (fun c => ?_)
      refine vv_lload_n hC 1 dX9_tales_19 rfl rfl ?_
      refine vv_aload_n hC 0 dX9_tales_20 rfl rfl ?_
      refine vv_get (v := .ref (B 25)) hC fl_X9_53 dX9_tales_21 h_m rfl ?_
      refine vv_iload_n hC 2 dX9_tales_24 rfl rfl ?_
      refine vv_laldn (t := k13) hC dX9_tales_25 h_tales (by omega) (by decide) ?_
      refine vv_ladd hC dX9_tales_26 ?_
      refine vv_lstore_n (lv2 := [(1, .long (l1_13 + ((f_X9_layTales x_houses x_people x_sights now tales sight went path home).1) k13)), (0, .ref (B 0)), (3, .int (nI k13))]) hC dX9_tales_27 rfl (by decide) rfl ?_
      refine vv_iinc (lv2 := [(3, .int (nI (k13 + 1))), (1, .long (l1_13 + ((f_X9_layTales x_houses x_people x_sights now tales sight went path home).1) k13)), (0, .ref (B 0))]) hC 2 dX9_tales_28 rfl (nI_add k13 1) (by decide) rfl ?_
      refine vv_goto hC 13 dX9_tales_31 (by decide) ?_
      refine vv_lv [2, 1, 0] rfl ?_
      exact ih (k13 + 1) (l1_13 + ((f_X9_layTales x_houses x_people x_sights now tales sight went path home).1) k13) out (by omega) (ho.trans (by first | (simp only [f_X9_tales_L13]; done) | rfl | (simp only [f_X9_tales_L13]; rfl))) hk
  refine vv_lv [2, 1, 0] rfl ?_
  refine hL3 64 0 0 (f_X9_tales_L13 x_houses x_people x_sights now tales sight went path home 64 0 0) (by omega) rfl ?_
  refine vv_lload_n hC 1 dX9_tales_34 rfl rfl ?_
  have hf : (f_X9_tales x_houses x_people x_sights now tales sight went path home) = ((f_X9_tales_L13 x_houses x_people x_sights now tales sight went path home 64 0 0), 0, (f_X9_layTales x_houses x_people x_sights now tales sight went path home).1, (f_X9_layTales x_houses x_people x_sights now tales sight went path home).2) := by first | (simp only [f_X9_tales]; done) | rfl | (simp only [f_X9_tales]; rfl)
  refine vv_lret hC hR rfl dX9_tales_35 (by omega) (by omega) ?_
  rw [hf]
  try dsimp only
  exact ⟨rfl, h_m, h_tales, h_went, hE⟩
def f_X9_sets (x_houses : Nat) (x_people : Nat) (x_sights : Nat) (now : Nat → Int32) (tales : Nat → Int64) (sight : Nat → Int32) (went : Nat → Int32) (path : Nat → Int32) (home : Nat → Int32) : Int32 × Int32 × (Nat → Int64) × (Nat → Int32) := (f_X9_setsWith ((f_X9_layTales x_houses x_people x_sights now tales sight went path home).1) (-9), 0, (f_X9_layTales x_houses x_people x_sights now tales sight went path home).1, (f_X9_layTales x_houses x_people x_sights now tales sight went path home).2)
set_option maxHeartbeats 4000000 in
set_option maxRecDepth 100000 in
theorem c_X9_sets (g : GT) (w0 : Wd) (B : Nat → Nat) (hB : ∀ i j, i < 60 → j < 60 → B i = B j → i = j) (x_thrown : Int32) (x_houses : Nat) (x_people : Nat) (x_paths : Nat) (x_acts : Nat) (x_size : Nat) (x_at : Nat) (x_readHouses : Nat) (x_readPeople : Nat) (x_readPaths : Nat) (x_sights : Nat) (x_drawn : Int64) (now : Nat → Int32) (tales : Nat → Int64) (sight : Nat → Int32) (went : Nat → Int32) (path : Nat → Int32) (home : Nat → Int32) (hxp : x_people ≤ 6) (hxh : x_houses ≤ 4) (hom : ∀ q, q < 6 → home q = nI (tn (home q)) ∧ tn (home q) < 4) (hsi : x_sights ≤ 6) (hendW : ∀ (set moon : Int32) (w : Nat → Int32), f_X9_waysOf_L26_E x_houses x_people x_sights sight path home now set moon fuelW 0 true (f_X9_waysOf_L2 6 0 w) = true) (h_m : w0 (B 0) = some (.inr (9, cM B (x_thrown, x_houses, x_people, x_paths, x_acts, x_size, x_at, x_readHouses, x_readPeople, x_readPaths, x_sights, x_drawn)))) (h_now : w0 (B 7) = some (.inl (g.2.2.1 0, 43, .inl now))) (h_tales : w0 (B 25) = some (.inl (g.2.2.1 1, 64, .inr (.inl tales)))) (h_sight : w0 (B 22) = some (.inl (g.2.2.1 0, 24, .inl sight))) (h_went : w0 (B 24) = some (.inl (g.2.2.1 0, 6, .inl went))) (h_path : w0 (B 4) = some (.inl (g.2.2.1 0, 16, .inl path))) (h_home : w0 (B 5) = some (.inl (g.2.2.1 0, 6, .inl home))) : CT g yX9_sets cX9_sets 1 (some .int) 5 122 0 0 w0 [.ref (B 0)] (fun r w2 => r = some (.int ((f_X9_sets x_houses x_people x_sights now tales sight went path home).1)) ∧ w2 (B 0) = some (.inr (9, cM B ((f_X9_sets x_houses x_people x_sights now tales sight went path home).2.1, x_houses, x_people, x_paths, x_acts, x_size, x_at, x_readHouses, x_readPeople, x_readPaths, x_sights, x_drawn))) ∧ w2 (B 25) = some (.inl (g.2.2.1 1, 64, .inr (.inl ((f_X9_sets x_houses x_people x_sights now tales sight went path home).2.2.1)))) ∧ w2 (B 24) = some (.inl (g.2.2.1 0, 6, .inl ((f_X9_sets x_houses x_people x_sights now tales sight went path home).2.2.2))) ∧ wE (fun q => q = (B 0) ∨ q = (B 25) ∨ q = (B 24)) w0 w2) := by
  refine CT.of (own := RX9) (by decide +kernel) rfl (Nat.le_of_ble_eq_true rfl) (fun X hC hR hI => ?_)
  show V g X 1 w0 0 0 0 [(0, .ref (B 0))] []
  have hE : wE (fun q => q = (B 0) ∨ q = (B 25) ∨ q = (B 24)) w0 w0 := wE.refl
  refine vv_aload_n hC 0 dX9_sets_0 rfl rfl ?_
  refine vv_iconst (v := 0) hC dX9_sets_1 (by decide) ?_
  refine vv_put hC fp_X9_69 dX9_sets_2 h_m rfl rfl (Nat.le_of_ble_eq_true rfl) (fun w1 t1 hs => ?_)
  have t1 : w1 (B 0) = some (.inr (9, cM B (0, x_houses, x_people, x_paths, x_acts, x_size, x_at, x_readHouses, x_readPeople, x_readPaths, x_sights, x_drawn))) := t1.trans (congrArg (fun z => some (Sum.inr (9, z))) (eM_thrown _ _ _ _ _ _ _ _ _ _ _ _ _ _))
  have h_now := hs _ _ (fw_ao h_now h_m) h_now
  have h_tales := hs _ _ (fw_ao h_tales h_m) h_tales
  have h_sight := hs _ _ (fw_ao h_sight h_m) h_sight
  have h_went := hs _ _ (fw_ao h_went h_m) h_went
  have h_path := hs _ _ (fw_ao h_path h_m) h_path
  have h_home := hs _ _ (fw_ao h_home h_m) h_home
  have h_m := t1
  have hE := hE.trans (hs.mono (fun _ z => (Or.inl z)))
  refine vv_aload_n hC 0 dX9_sets_5 rfl rfl ?_
  refine vv_callV hC dX9_sets_6 md_X9_layTales lk_m_X9_228 lk_i_X9_layTales lk_s_X9_layTales h_m rfl (As := []) (rest := []) (c_X9_layTales g w1 B hB 0 x_houses x_people x_paths x_acts x_size x_at x_readHouses x_readPeople x_readPaths x_sights x_drawn now tales sight went path home (by omega) (by omega) (hom) (by omega) (hendW) h_m h_now h_tales h_sight h_went h_path h_home) rfl rfl (Nat.le_of_ble_eq_true rfl) ⟨by decide, by decide, by decide, by decide⟩ (fun r w9 hq => ?_)
  obtain ⟨rfl, t1, t2, hs⟩ := hq
  obtain ⟨w2, rfl⟩ : ∃ z, z = w9 := ⟨_, rfl⟩
  have h_m := hs _ _ (fun z => z.elim (fw_oa h_m h_tales) (fw_oa h_m h_went)) h_m
  have h_now := hs _ _ (fun z => z.elim (fw_inj hB (by decide) (by decide) (by decide)) (fw_inj hB (by decide) (by decide) (by decide))) h_now
  have h_sight := hs _ _ (fun z => z.elim (fw_inj hB (by decide) (by decide) (by decide)) (fw_inj hB (by decide) (by decide) (by decide))) h_sight
  have h_path := hs _ _ (fun z => z.elim (fw_inj hB (by decide) (by decide) (by decide)) (fw_inj hB (by decide) (by decide) (by decide))) h_path
  have h_home := hs _ _ (fun z => z.elim (fw_inj hB (by decide) (by decide) (by decide)) (fw_inj hB (by decide) (by decide) (by decide))) h_home
  have h_tales := t1
  have h_went := t2
  have hE := hE.trans (hs.mono (fun _ z => z.elim (fun z => (Or.inr (Or.inl z))) (fun z => (Or.inr (Or.inr z)))))
  show V g X 1 w2 0 0 9 [(0, .ref (B 0))] []
  refine vv_aload_n hC 0 dX9_sets_9 rfl rfl ?_
  refine vv_bipush (v := (-9)) hC dX9_sets_10 (by decide) ?_
  refine vv_callV hC dX9_sets_12 md_X9_setsWith lk_m_X9_231 lk_i_X9_setsWith lk_s_X9_setsWith h_m rfl (As := [.int (-9)]) (rest := []) (c_X9_setsWith g w2 B hB 0 x_houses x_people x_paths x_acts x_size x_at x_readHouses x_readPeople x_readPaths x_sights x_drawn ((f_X9_layTales x_houses x_people x_sights now tales sight went path home).1) (-9) h_m h_tales) rfl rfl (Nat.le_of_ble_eq_true rfl) ⟨by decide, by decide, by decide, by decide⟩ (fun r w9 hq => ?_)
  obtain ⟨rfl, rfl⟩ := hq
  show V g X 1 w2 0 0 15 [(0, .ref (B 0))] [.int (f_X9_setsWith ((f_X9_layTales x_houses x_people x_sights now tales sight went path home).1) (-9))]
  have hf : (f_X9_sets x_houses x_people x_sights now tales sight went path home) = (f_X9_setsWith ((f_X9_layTales x_houses x_people x_sights now tales sight went path home).1) (-9), 0, (f_X9_layTales x_houses x_people x_sights now tales sight went path home).1, (f_X9_layTales x_houses x_people x_sights now tales sight went path home).2) := by first | (simp only [f_X9_sets]; done) | rfl | (simp only [f_X9_sets]; rfl)
  refine vv_iret hC hR rfl dX9_sets_15 (by omega) (by omega) ?_
  rw [hf]
  try dsimp only
  exact ⟨rfl, h_m, h_tales, h_went, hE⟩
def f_X9_setAt_L13 (x_houses : Nat) (x_people : Nat) (x_sights : Nat) (now : Nat → Int32) (tales : Nat → Int64) (sight : Nat → Int32) (went : Nat → Int32) (path : Nat → Int32) (home : Nat → Int32) (p1 : Int32) : Nat → Nat → Int32 → Int32 × Int32 × (Nat → Int64) × (Nat → Int32)
  | 0, k13, l2_13 => ((-9), 0, (f_X9_layTales x_houses x_people x_sights now tales sight went path home).1, (f_X9_layTales x_houses x_people x_sights now tales sight went path home).2)
  | r13 + 1, k13, l2_13 => (if 0 < ((f_X9_layTales x_houses x_people x_sights now tales sight went path home).1) k13 then (if l2_13 = p1 then (nI k13, 0, (f_X9_layTales x_houses x_people x_sights now tales sight went path home).1, (f_X9_layTales x_houses x_people x_sights now tales sight went path home).2) else f_X9_setAt_L13 x_houses x_people x_sights now tales sight went path home p1 r13 (k13 + 1) (l2_13 + 1)) else f_X9_setAt_L13 x_houses x_people x_sights now tales sight went path home p1 r13 (k13 + 1) l2_13)
def f_X9_setAt (x_houses : Nat) (x_people : Nat) (x_sights : Nat) (now : Nat → Int32) (tales : Nat → Int64) (sight : Nat → Int32) (went : Nat → Int32) (path : Nat → Int32) (home : Nat → Int32) (p1 : Int32) : Int32 × Int32 × (Nat → Int64) × (Nat → Int32) := f_X9_setAt_L13 x_houses x_people x_sights now tales sight went path home p1 64 0 0
set_option maxHeartbeats 4000000 in
set_option maxRecDepth 100000 in
theorem c_X9_setAt (g : GT) (w0 : Wd) (B : Nat → Nat) (hB : ∀ i j, i < 60 → j < 60 → B i = B j → i = j) (x_thrown : Int32) (x_houses : Nat) (x_people : Nat) (x_paths : Nat) (x_acts : Nat) (x_size : Nat) (x_at : Nat) (x_readHouses : Nat) (x_readPeople : Nat) (x_readPaths : Nat) (x_sights : Nat) (x_drawn : Int64) (now : Nat → Int32) (tales : Nat → Int64) (sight : Nat → Int32) (went : Nat → Int32) (path : Nat → Int32) (home : Nat → Int32) (p1 : Int32) (hxp : x_people ≤ 6) (hxh : x_houses ≤ 4) (hom : ∀ q, q < 6 → home q = nI (tn (home q)) ∧ tn (home q) < 4) (hsi : x_sights ≤ 6) (hendW : ∀ (set moon : Int32) (w : Nat → Int32), f_X9_waysOf_L26_E x_houses x_people x_sights sight path home now set moon fuelW 0 true (f_X9_waysOf_L2 6 0 w) = true) (h_m : w0 (B 0) = some (.inr (9, cM B (x_thrown, x_houses, x_people, x_paths, x_acts, x_size, x_at, x_readHouses, x_readPeople, x_readPaths, x_sights, x_drawn)))) (h_now : w0 (B 7) = some (.inl (g.2.2.1 0, 43, .inl now))) (h_tales : w0 (B 25) = some (.inl (g.2.2.1 1, 64, .inr (.inl tales)))) (h_sight : w0 (B 22) = some (.inl (g.2.2.1 0, 24, .inl sight))) (h_went : w0 (B 24) = some (.inl (g.2.2.1 0, 6, .inl went))) (h_path : w0 (B 4) = some (.inl (g.2.2.1 0, 16, .inl path))) (h_home : w0 (B 5) = some (.inl (g.2.2.1 0, 6, .inl home))) : CT g yX9_setAt cX9_setAt 4 (some .int) 5 122 0 0 w0 [.ref (B 0), .int p1] (fun r w2 => r = some (.int ((f_X9_setAt x_houses x_people x_sights now tales sight went path home p1).1)) ∧ w2 (B 0) = some (.inr (9, cM B ((f_X9_setAt x_houses x_people x_sights now tales sight went path home p1).2.1, x_houses, x_people, x_paths, x_acts, x_size, x_at, x_readHouses, x_readPeople, x_readPaths, x_sights, x_drawn))) ∧ w2 (B 25) = some (.inl (g.2.2.1 1, 64, .inr (.inl ((f_X9_setAt x_houses x_people x_sights now tales sight went path home p1).2.2.1)))) ∧ w2 (B 24) = some (.inl (g.2.2.1 0, 6, .inl ((f_X9_setAt x_houses x_people x_sights now tales sight went path home p1).2.2.2))) ∧ wE (fun q => q = (B 0) ∨ q = (B 25) ∨ q = (B 24)) w0 w2) := by
  refine CT.of (own := RX9) (by decide +kernel) rfl (Nat.le_of_ble_eq_true rfl) (fun X hC hR hI => ?_)
  show V g X 4 w0 0 0 0 [(0, .ref (B 0)), (1, .int p1)] []
  have hE : wE (fun q => q = (B 0) ∨ q = (B 25) ∨ q = (B 24)) w0 w0 := wE.refl
  refine vv_aload_n hC 0 dX9_setAt_0 rfl rfl ?_
  refine vv_iconst (v := 0) hC dX9_setAt_1 (by decide) ?_
  refine vv_put hC fp_X9_69 dX9_setAt_2 h_m rfl rfl (Nat.le_of_ble_eq_true rfl) (fun w1 t1 hs => ?_)
  have t1 : w1 (B 0) = some (.inr (9, cM B (0, x_houses, x_people, x_paths, x_acts, x_size, x_at, x_readHouses, x_readPeople, x_readPaths, x_sights, x_drawn))) := t1.trans (congrArg (fun z => some (Sum.inr (9, z))) (eM_thrown _ _ _ _ _ _ _ _ _ _ _ _ _ _))
  have h_now := hs _ _ (fw_ao h_now h_m) h_now
  have h_tales := hs _ _ (fw_ao h_tales h_m) h_tales
  have h_sight := hs _ _ (fw_ao h_sight h_m) h_sight
  have h_went := hs _ _ (fw_ao h_went h_m) h_went
  have h_path := hs _ _ (fw_ao h_path h_m) h_path
  have h_home := hs _ _ (fw_ao h_home h_m) h_home
  have h_m := t1
  have hE := hE.trans (hs.mono (fun _ z => (Or.inl z)))
  refine vv_aload_n hC 0 dX9_setAt_5 rfl rfl ?_
  refine vv_callV hC dX9_setAt_6 md_X9_layTales lk_m_X9_228 lk_i_X9_layTales lk_s_X9_layTales h_m rfl (As := []) (rest := []) (c_X9_layTales g w1 B hB 0 x_houses x_people x_paths x_acts x_size x_at x_readHouses x_readPeople x_readPaths x_sights x_drawn now tales sight went path home (by omega) (by omega) (hom) (by omega) (hendW) h_m h_now h_tales h_sight h_went h_path h_home) rfl rfl (Nat.le_of_ble_eq_true rfl) ⟨by decide, by decide, by decide, by decide⟩ (fun r w9 hq => ?_)
  obtain ⟨rfl, t1, t2, hs⟩ := hq
  obtain ⟨w2, rfl⟩ : ∃ z, z = w9 := ⟨_, rfl⟩
  have h_m := hs _ _ (fun z => z.elim (fw_oa h_m h_tales) (fw_oa h_m h_went)) h_m
  have h_now := hs _ _ (fun z => z.elim (fw_inj hB (by decide) (by decide) (by decide)) (fw_inj hB (by decide) (by decide) (by decide))) h_now
  have h_sight := hs _ _ (fun z => z.elim (fw_inj hB (by decide) (by decide) (by decide)) (fw_inj hB (by decide) (by decide) (by decide))) h_sight
  have h_path := hs _ _ (fun z => z.elim (fw_inj hB (by decide) (by decide) (by decide)) (fw_inj hB (by decide) (by decide) (by decide))) h_path
  have h_home := hs _ _ (fun z => z.elim (fw_inj hB (by decide) (by decide) (by decide)) (fw_inj hB (by decide) (by decide) (by decide))) h_home
  have h_tales := t1
  have h_went := t2
  have hE := hE.trans (hs.mono (fun _ z => z.elim (fun z => (Or.inr (Or.inl z))) (fun z => (Or.inr (Or.inr z)))))
  show V g X 4 w2 0 0 9 [(0, .ref (B 0)), (1, .int p1)] []
  refine vv_iconst (v := 0) hC dX9_setAt_9 (by decide) ?_
  refine vv_istore_n (lv2 := [(2, .int 0), (0, .ref (B 0)), (1, .int p1)]) hC dX9_setAt_10 rfl (by decide) rfl ?_
  refine vv_iconst (v := 0) hC dX9_setAt_11 (by decide) ?_
  refine vv_istore_n (lv2 := [(3, .int 0), (2, .int 0), (0, .ref (B 0)), (1, .int p1)]) hC dX9_setAt_12 rfl (by decide) rfl ?_
  have hL5 : ∀ (r13 k13 : Nat) (l2_13 : Int32), k13 + r13 = 64 → (f_X9_setAt x_houses x_people x_sights now tales sight went path home p1) = f_X9_setAt_L13 x_houses x_people x_sights now tales sight went path home p1 r13 k13 l2_13 → V g X 4 w2 0 0 13 [(0, .ref (B 0)), (1, .int p1), (2, .int l2_13), (3, .int (nI k13))] [] := by
    intro r13
    induction r13 with
    | zero =>
      intro k13 l2_13 hb ho 
      refine vv_iload_n hC 3 dX9_setAt_13 rfl rfl ?_
      refine vv_bipush (v := (64)) hC dX9_setAt_14 (by decide) ?_
      refine vv_icmp_ge hC 46 dX9_setAt_16 (by decide) (fun c => ?_) (fun c => False.elim (c ((nI_le_ (a := 64) (b := k13) (by omega) (by omega)).mpr (by omega))))
      refine vv_bipush (v := (-9)) hC dX9_setAt_46 (by decide) ?_
      have hf : (f_X9_setAt x_houses x_people x_sights now tales sight went path home p1) = ((-9), 0, (f_X9_layTales x_houses x_people x_sights now tales sight went path home).1, (f_X9_layTales x_houses x_people x_sights now tales sight went path home).2) := ho.trans (by first | (simp only [f_X9_setAt_L13]; done) | rfl | (simp only [f_X9_setAt_L13]; rfl))
      refine vv_iret hC hR rfl dX9_setAt_48 (by omega) (by omega) ?_
      rw [hf]
      try dsimp only
      exact ⟨rfl, h_m, h_tales, h_went, hE⟩
    | succ r13 ih =>
      intro k13 l2_13 hb ho 
      refine vv_iload_n hC 3 dX9_setAt_13 rfl rfl ?_
      refine vv_bipush (v := (64)) hC dX9_setAt_14 (by decide) ?_
      refine vv_icmp_ge hC 46 dX9_setAt_16 (by decide) (fun c => absurd ((nI_le_ (a := 64) (b := k13) (by omega) (by omega)).mp c) (by first | omega | decide)) (fun c => ?_)
      refine vv_aload_n hC 0 dX9_setAt_19 rfl rfl ?_
      refine vv_get (v := .ref (B 25)) hC fl_X9_53 dX9_setAt_20 h_m rfl ?_
      refine vv_iload_n hC 3 dX9_setAt_23 rfl rfl ?_
      refine vv_laldn (t := k13) hC dX9_setAt_24 h_tales (by omega) (by decide) ?_
      refine vv_lconst (v := 0) hC dX9_setAt_25 (by decide) ?_
      refine vv_lcmp hC dX9_setAt_26 ?_
      refine vv_if_le hC 40 dX9_setAt_27 (by decide) (fun c3 => ?_) (fun c3 => ?_)
      · have c3 : ¬ (0 < ((f_X9_layTales x_houses x_people x_sights now tales sight went path home).1) k13) := lc_le c3
        refine vv_iinc (lv2 := [(3, .int (nI (k13 + 1))), (0, .ref (B 0)), (1, .int p1), (2, .int l2_13)]) hC 3 dX9_setAt_40 rfl (nI_add k13 1) (by decide) rfl ?_
        refine vv_goto hC 13 dX9_setAt_43 (by decide) ?_
        refine vv_lv [1, 2, 3, 0] rfl ?_
        exact ih (k13 + 1) l2_13 (by omega) (ho.trans (by first | (simp only [f_X9_setAt_L13, if_neg c3]; done) | rfl | (simp only [f_X9_setAt_L13, if_neg c3]; rfl)))
      · have c3 : 0 < ((f_X9_layTales x_houses x_people x_sights now tales sight went path home).1) k13 := lc_nle c3
        refine vv_iload_n hC 2 dX9_setAt_30 rfl rfl ?_
        refine vv_iload_n hC 1 dX9_setAt_31 rfl rfl ?_
        refine vv_icmp_ne hC 37 dX9_setAt_32 (by decide) (fun c4 => ?_) (fun c4 => ?_)
        · have c4 : ¬ (l2_13 = p1) := c4
          refine vv_iinc (lv2 := [(2, .int (l2_13 + 1)), (0, .ref (B 0)), (1, .int p1), (3, .int (nI k13))]) hC 2 dX9_setAt_37 rfl rfl (by decide) rfl ?_
          refine vv_iinc (lv2 := [(3, .int (nI (k13 + 1))), (2, .int (l2_13 + 1)), (0, .ref (B 0)), (1, .int p1)]) hC 3 dX9_setAt_40 rfl (nI_add k13 1) (by decide) rfl ?_
          refine vv_goto hC 13 dX9_setAt_43 (by decide) ?_
          refine vv_lv [2, 3, 1, 0] rfl ?_
          exact ih (k13 + 1) (l2_13 + 1) (by omega) (ho.trans (by first | (simp only [f_X9_setAt_L13, if_pos c3, if_neg c4]; done) | rfl | (simp only [f_X9_setAt_L13, if_pos c3, if_neg c4]; rfl)))
        · have c4 : l2_13 = p1 := c4
          refine vv_iload_n hC 3 dX9_setAt_35 rfl rfl ?_
          have hf : (f_X9_setAt x_houses x_people x_sights now tales sight went path home p1) = (nI k13, 0, (f_X9_layTales x_houses x_people x_sights now tales sight went path home).1, (f_X9_layTales x_houses x_people x_sights now tales sight went path home).2) := ho.trans (by first | (simp only [f_X9_setAt_L13, if_pos c3, if_pos c4]; done) | rfl | (simp only [f_X9_setAt_L13, if_pos c3, if_pos c4]; rfl))
          refine vv_iret hC hR rfl dX9_setAt_36 (by omega) (by omega) ?_
          rw [hf]
          try dsimp only
          exact ⟨rfl, h_m, h_tales, h_went, hE⟩
  refine vv_lv [2, 3, 1, 0] rfl ?_
  exact hL5 64 0 0 (by omega) (by first | (simp only [f_X9_setAt]; done) | rfl | (simp only [f_X9_setAt]; rfl))
def f_X9_sure_x1 (x_houses : Nat) (x_people : Nat) (x_sights : Nat) (now : Nat → Int32) (tales : Nat → Int64) (sight : Nat → Int32) (went : Nat → Int32) (path : Nat → Int32) (home : Nat → Int32) (k43 : Nat) : Int32 := (if f_X9_setsWith ((f_X9_layTales x_houses x_people x_sights now tales sight went path home).1) (nI k43) = f_X9_setsWith ((f_X9_layTales x_houses x_people x_sights now tales sight went path home).1) (-9) then ((1 : Int32) <<< (nI k43 &&& 31)) else (0 : Int32))
def f_X9_sure_L43 (x_houses : Nat) (x_people : Nat) (x_sights : Nat) (now : Nat → Int32) (tales : Nat → Int64) (sight : Nat → Int32) (went : Nat → Int32) (path : Nat → Int32) (home : Nat → Int32) : Nat → Nat → Int32 → Int32
  | 0, k43, l3_43 => l3_43
  | r43 + 1, k43, l3_43 => f_X9_sure_L43 x_houses x_people x_sights now tales sight went path home r43 (k43 + 1) (l3_43 ||| (f_X9_sure_x1 x_houses x_people x_sights now tales sight went path home k43))
def f_X9_sure_x2 (x_houses : Nat) (x_people : Nat) (x_sights : Nat) (now : Nat → Int32) (tales : Nat → Int64) (sight : Nat → Int32) (went : Nat → Int32) (path : Nat → Int32) (home : Nat → Int32) (p1 : Int32) : Int32 := (if tn p1 = 0 then (f_X9_sure_L43 x_houses x_people x_sights now tales sight went path home x_people 0 0) else (if tn p1 = 1 then (f_X9_there x_people now &&& (f_X9_suspects x_people ((f_X9_layTales x_houses x_people x_sights now tales sight went path home).1) ^^^ (-1))) else f_X9_suspects x_people ((f_X9_layTales x_houses x_people x_sights now tales sight went path home).1)))
def f_X9_sure (x_houses : Nat) (x_people : Nat) (x_sights : Nat) (now : Nat → Int32) (tales : Nat → Int64) (sight : Nat → Int32) (went : Nat → Int32) (path : Nat → Int32) (home : Nat → Int32) (p1 : Int32) : Int32 × Int32 × (Nat → Int64) × (Nat → Int32) := (if f_X9_in p1.toInt64 0 2 = true then (if f_X9_setsWith ((f_X9_layTales x_houses x_people x_sights now tales sight went path home).1) (-9) = 0 then ((-9), 0, (f_X9_layTales x_houses x_people x_sights now tales sight went path home).1, (f_X9_layTales x_houses x_people x_sights now tales sight went path home).2) else ((f_X9_sure_x2 x_houses x_people x_sights now tales sight went path home p1), 0, (f_X9_layTales x_houses x_people x_sights now tales sight went path home).1, (f_X9_layTales x_houses x_people x_sights now tales sight went path home).2)) else ((-2), 0, tales, went))
set_option maxHeartbeats 4000000 in
set_option maxRecDepth 100000 in
theorem c_X9_sure (g : GT) (w0 : Wd) (B : Nat → Nat) (hB : ∀ i j, i < 60 → j < 60 → B i = B j → i = j) (x_thrown : Int32) (x_houses : Nat) (x_people : Nat) (x_paths : Nat) (x_acts : Nat) (x_size : Nat) (x_at : Nat) (x_readHouses : Nat) (x_readPeople : Nat) (x_readPaths : Nat) (x_sights : Nat) (x_drawn : Int64) (now : Nat → Int32) (tales : Nat → Int64) (sight : Nat → Int32) (went : Nat → Int32) (path : Nat → Int32) (home : Nat → Int32) (p1 : Int32) (hxp : x_people ≤ 6) (hxh : x_houses ≤ 4) (hom : ∀ q, q < 6 → home q = nI (tn (home q)) ∧ tn (home q) < 4) (hsi : x_sights ≤ 6) (hendW : ∀ (set moon : Int32) (w : Nat → Int32), f_X9_waysOf_L26_E x_houses x_people x_sights sight path home now set moon fuelW 0 true (f_X9_waysOf_L2 6 0 w) = true) (h_m : w0 (B 0) = some (.inr (9, cM B (x_thrown, x_houses, x_people, x_paths, x_acts, x_size, x_at, x_readHouses, x_readPeople, x_readPaths, x_sights, x_drawn)))) (h_now : w0 (B 7) = some (.inl (g.2.2.1 0, 43, .inl now))) (h_tales : w0 (B 25) = some (.inl (g.2.2.1 1, 64, .inr (.inl tales)))) (h_sight : w0 (B 22) = some (.inl (g.2.2.1 0, 24, .inl sight))) (h_went : w0 (B 24) = some (.inl (g.2.2.1 0, 6, .inl went))) (h_path : w0 (B 4) = some (.inl (g.2.2.1 0, 16, .inl path))) (h_home : w0 (B 5) = some (.inl (g.2.2.1 0, 6, .inl home))) : CT g yX9_sure cX9_sure 5 (some .int) 5 122 0 0 w0 [.ref (B 0), .int p1] (fun r w2 => r = some (.int ((f_X9_sure x_houses x_people x_sights now tales sight went path home p1).1)) ∧ w2 (B 0) = some (.inr (9, cM B ((f_X9_sure x_houses x_people x_sights now tales sight went path home p1).2.1, x_houses, x_people, x_paths, x_acts, x_size, x_at, x_readHouses, x_readPeople, x_readPaths, x_sights, x_drawn))) ∧ w2 (B 25) = some (.inl (g.2.2.1 1, 64, .inr (.inl ((f_X9_sure x_houses x_people x_sights now tales sight went path home p1).2.2.1)))) ∧ w2 (B 24) = some (.inl (g.2.2.1 0, 6, .inl ((f_X9_sure x_houses x_people x_sights now tales sight went path home p1).2.2.2))) ∧ wE (fun q => q = (B 0) ∨ q = (B 25) ∨ q = (B 24)) w0 w2) := by
  refine CT.of (own := RX9) (by decide +kernel) rfl (Nat.le_of_ble_eq_true rfl) (fun X hC hR hI => ?_)
  show V g X 5 w0 0 0 0 [(0, .ref (B 0)), (1, .int p1)] []
  have hE : wE (fun q => q = (B 0) ∨ q = (B 25) ∨ q = (B 24)) w0 w0 := wE.refl
  refine vv_aload_n hC 0 dX9_sure_0 rfl rfl ?_
  refine vv_iconst (v := 0) hC dX9_sure_1 (by decide) ?_
  refine vv_put hC fp_X9_69 dX9_sure_2 h_m rfl rfl (Nat.le_of_ble_eq_true rfl) (fun w1 t1 hs => ?_)
  have t1 : w1 (B 0) = some (.inr (9, cM B (0, x_houses, x_people, x_paths, x_acts, x_size, x_at, x_readHouses, x_readPeople, x_readPaths, x_sights, x_drawn))) := t1.trans (congrArg (fun z => some (Sum.inr (9, z))) (eM_thrown _ _ _ _ _ _ _ _ _ _ _ _ _ _))
  have h_now := hs _ _ (fw_ao h_now h_m) h_now
  have h_tales := hs _ _ (fw_ao h_tales h_m) h_tales
  have h_sight := hs _ _ (fw_ao h_sight h_m) h_sight
  have h_went := hs _ _ (fw_ao h_went h_m) h_went
  have h_path := hs _ _ (fw_ao h_path h_m) h_path
  have h_home := hs _ _ (fw_ao h_home h_m) h_home
  have h_m := t1
  have hE := hE.trans (hs.mono (fun _ z => (Or.inl z)))
  refine vv_iload_n hC 1 dX9_sure_5 rfl rfl ?_
  refine vv_i2l hC dX9_sure_6 ?_
  refine vv_lconst (v := 0) hC dX9_sure_7 (by decide) ?_
  refine vv_ldc2 (v := (2)) hC lk_l_X9_193 dX9_sure_8 ?_
  refine vv_callS hC dX9_sure_11 md_X9_in lk_m_X9_76 lk_t_X9_in (As := [.long p1.toInt64, .long 0, .long 2]) (rest := []) (c_X9_in g w1 p1.toInt64 0 2) rfl rfl (Nat.le_of_ble_eq_true rfl) ⟨by decide, by decide, by decide, by decide⟩ (fun r w9 hq => ?_)
  obtain ⟨rfl, rfl⟩ := hq
  show V g X 5 w1 0 0 14 [(0, .ref (B 0)), (1, .int p1)] [.int (bI (f_X9_in p1.toInt64 0 2))]
  refine vv_if_ne hC 20 dX9_sure_14 (by decide) (fun c2 => ?_) (fun c2 => ?_)
  · have c2 : f_X9_in p1.toInt64 0 2 = true := bI_t c2
    have bc2 := inC_b (lo := 0) (hi := 2) (by decide) (by decide) (by decide) c2
    refine vv_aload_n hC 0 dX9_sure_20 rfl rfl ?_
    refine vv_callV hC dX9_sure_21 md_X9_layTales lk_m_X9_228 lk_i_X9_layTales lk_s_X9_layTales h_m rfl (As := []) (rest := []) (c_X9_layTales g w1 B hB 0 x_houses x_people x_paths x_acts x_size x_at x_readHouses x_readPeople x_readPaths x_sights x_drawn now tales sight went path home (by omega) (by omega) (hom) (by omega) (hendW) h_m h_now h_tales h_sight h_went h_path h_home) rfl rfl (Nat.le_of_ble_eq_true rfl) ⟨by decide, by decide, by decide, by decide⟩ (fun r w9 hq => ?_)
    obtain ⟨rfl, t1, t2, hs⟩ := hq
    obtain ⟨w3, rfl⟩ : ∃ z, z = w9 := ⟨_, rfl⟩
    have h_m := hs _ _ (fun z => z.elim (fw_oa h_m h_tales) (fw_oa h_m h_went)) h_m
    have h_now := hs _ _ (fun z => z.elim (fw_inj hB (by decide) (by decide) (by decide)) (fw_inj hB (by decide) (by decide) (by decide))) h_now
    have h_sight := hs _ _ (fun z => z.elim (fw_inj hB (by decide) (by decide) (by decide)) (fw_inj hB (by decide) (by decide) (by decide))) h_sight
    have h_path := hs _ _ (fun z => z.elim (fw_inj hB (by decide) (by decide) (by decide)) (fw_inj hB (by decide) (by decide) (by decide))) h_path
    have h_home := hs _ _ (fun z => z.elim (fw_inj hB (by decide) (by decide) (by decide)) (fw_inj hB (by decide) (by decide) (by decide))) h_home
    have h_tales := t1
    have h_went := t2
    have hE := hE.trans (hs.mono (fun _ z => z.elim (fun z => (Or.inr (Or.inl z))) (fun z => (Or.inr (Or.inr z)))))
    show V g X 5 w3 0 0 24 [(0, .ref (B 0)), (1, .int p1)] []
    refine vv_aload_n hC 0 dX9_sure_24 rfl rfl ?_
    refine vv_bipush (v := (-9)) hC dX9_sure_25 (by decide) ?_
    refine vv_callV hC dX9_sure_27 md_X9_setsWith lk_m_X9_231 lk_i_X9_setsWith lk_s_X9_setsWith h_m rfl (As := [.int (-9)]) (rest := []) (c_X9_setsWith g w3 B hB 0 x_houses x_people x_paths x_acts x_size x_at x_readHouses x_readPeople x_readPaths x_sights x_drawn ((f_X9_layTales x_houses x_people x_sights now tales sight went path home).1) (-9) h_m h_tales) rfl rfl (Nat.le_of_ble_eq_true rfl) ⟨by decide, by decide, by decide, by decide⟩ (fun r w9 hq => ?_)
    obtain ⟨rfl, rfl⟩ := hq
    show V g X 5 w3 0 0 30 [(0, .ref (B 0)), (1, .int p1)] [.int (f_X9_setsWith ((f_X9_layTales x_houses x_people x_sights now tales sight went path home).1) (-9))]
    refine vv_istore_n (lv2 := [(2, .int (f_X9_setsWith ((f_X9_layTales x_houses x_people x_sights now tales sight went path home).1) (-9))), (0, .ref (B 0)), (1, .int p1)]) hC dX9_sure_30 rfl (by decide) rfl ?_
    refine vv_iload_n hC 0 dX9_sure_31 rfl rfl ?_
    refine vv_if_ne hC 38 dX9_sure_32 (by decide) (fun c4 => ?_) (fun c4 => ?_)
    · have c4 : ¬ (f_X9_setsWith ((f_X9_layTales x_houses x_people x_sights now tales sight went path home).1) (-9) = 0) := c4
      refine vv_iconst (v := 0) hC dX9_sure_38 (by decide) ?_
      refine vv_istore_n (lv2 := [(3, .int 0), (2, .int (f_X9_setsWith ((f_X9_layTales x_houses x_people x_sights now tales sight went path home).1) (-9))), (0, .ref (B 0)), (1, .int p1)]) hC dX9_sure_39 rfl (by decide) rfl ?_
      refine vv_iconst (v := 0) hC dX9_sure_40 (by decide) ?_
      refine vv_istore (lv2 := [(4, .int 0), (3, .int 0), (2, .int (f_X9_setsWith ((f_X9_layTales x_houses x_people x_sights now tales sight went path home).1) (-9))), (0, .ref (B 0)), (1, .int p1)]) hC dX9_sure_41 (by decide) rfl ?_
      have hL7 : ∀ (r43 k43 : Nat) (l3_43 : Int32) (out : Int32), k43 + r43 = x_people → out = f_X9_sure_L43 x_houses x_people x_sights now tales sight went path home r43 k43 l3_43 → V g X 5 w3 0 0 79 [(0, .ref (B 0)), (1, .int p1), (2, .int (f_X9_setsWith ((f_X9_layTales x_houses x_people x_sights now tales sight went path home).1) (-9))), (3, .int out)] [] → V g X 5 w3 0 0 43 [(0, .ref (B 0)), (1, .int p1), (2, .int (f_X9_setsWith ((f_X9_layTales x_houses x_people x_sights now tales sight went path home).1) (-9))), (3, .int l3_43), (4, .int (nI k43))] [] := by
        intro r43
        induction r43 with
        | zero =>
          intro k43 l3_43 out hb ho hk
          refine vv_iload hC 4 dX9_sure_43 rfl ?_
          refine vv_aload_n hC 0 dX9_sure_45 rfl rfl ?_
          refine vv_get (v := .int (nI x_people)) hC fl_X9_80 dX9_sure_46 h_m rfl ?_
          refine vv_icmp_ge hC 79 dX9_sure_49 (by decide) (fun c => ?_) (fun c => False.elim (c ((nI_le_ (a := x_people) (b := k43) (by omega) (by omega)).mpr (by omega))))
          refine vv_lv [0, 1, 2, 3] rfl ?_
          have ho := ho.trans (by first | (simp only [f_X9_sure_L43]; done) | rfl | (simp only [f_X9_sure_L43]; rfl) : _ = l3_43)
          subst ho
          exact hk
        | succ r43 ih =>
          intro k43 l3_43 out hb ho hk
          refine vv_iload hC 4 dX9_sure_43 rfl ?_
          refine vv_aload_n hC 0 dX9_sure_45 rfl rfl ?_
          refine vv_get (v := .int (nI x_people)) hC fl_X9_80 dX9_sure_46 h_m rfl ?_
          refine vv_icmp_ge hC 79 dX9_sure_49 (by decide) (fun c => absurd ((nI_le_ (a := x_people) (b := k43) (by omega) (by omega)).mp c) (by first | omega | decide)) (fun c => ?_)
          refine vv_iload_n hC 3 dX9_sure_52 rfl rfl ?_
          refine vv_aload_n hC 0 dX9_sure_53 rfl rfl ?_
          refine vv_iload hC 4 dX9_sure_54 rfl ?_
          refine vv_callV hC dX9_sure_56 md_X9_setsWith lk_m_X9_231 lk_i_X9_setsWith lk_s_X9_setsWith h_m rfl (As := [.int (nI k43)]) (rest := [.int l3_43]) (c_X9_setsWith g w3 B hB 0 x_houses x_people x_paths x_acts x_size x_at x_readHouses x_readPeople x_readPaths x_sights x_drawn ((f_X9_layTales x_houses x_people x_sights now tales sight went path home).1) (nI k43) h_m h_tales) rfl rfl (Nat.le_of_ble_eq_true rfl) ⟨by decide, by decide, by decide, by decide⟩ (fun r w9 hq => ?_)
          obtain ⟨rfl, rfl⟩ := hq
          show V g X 5 w3 0 0 59 [(0, .ref (B 0)), (1, .int p1), (2, .int (f_X9_setsWith ((f_X9_layTales x_houses x_people x_sights now tales sight went path home).1) (-9))), (3, .int l3_43), (4, .int (nI k43))] [.int (f_X9_setsWith ((f_X9_layTales x_houses x_people x_sights now tales sight went path home).1) (nI k43)), .int l3_43]
          refine vv_iload_n hC 2 dX9_sure_59 rfl rfl ?_
          have hJ6 : V g X 5 w3 0 0 71 [(0, .ref (B 0)), (1, .int p1), (2, .int (f_X9_setsWith ((f_X9_layTales x_houses x_people x_sights now tales sight went path home).1) (-9))), (3, .int l3_43), (4, .int (nI k43))] [.int (f_X9_sure_x1 x_houses x_people x_sights now tales sight went path home k43), .int l3_43] := by
            refine vv_ior hC dX9_sure_71 ?_
            refine vv_istore_n (lv2 := [(3, .int (l3_43 ||| (f_X9_sure_x1 x_houses x_people x_sights now tales sight went path home k43))), (0, .ref (B 0)), (1, .int p1), (2, .int (f_X9_setsWith ((f_X9_layTales x_houses x_people x_sights now tales sight went path home).1) (-9))), (4, .int (nI k43))]) hC dX9_sure_72 rfl (by decide) rfl ?_
            refine vv_iinc (lv2 := [(4, .int (nI (k43 + 1))), (3, .int (l3_43 ||| (f_X9_sure_x1 x_houses x_people x_sights now tales sight went path home k43))), (0, .ref (B 0)), (1, .int p1), (2, .int (f_X9_setsWith ((f_X9_layTales x_houses x_people x_sights now tales sight went path home).1) (-9)))]) hC 4 dX9_sure_73 rfl (nI_add k43 1) (by decide) rfl ?_
            refine vv_goto hC 43 dX9_sure_76 (by decide) ?_
            refine vv_lv [2, 3, 4, 1, 0] rfl ?_
            exact ih (k43 + 1) (l3_43 ||| (f_X9_sure_x1 x_houses x_people x_sights now tales sight went path home k43)) out (by omega) (ho.trans (by first | (simp only [f_X9_sure_L43]; done) | rfl | (simp only [f_X9_sure_L43]; rfl))) hk
          refine vv_icmp_ne hC 70 dX9_sure_60 (by decide) (fun c5 => ?_) (fun c5 => ?_)
          · have c5 : ¬ (f_X9_setsWith ((f_X9_layTales x_houses x_people x_sights now tales sight went path home).1) (nI k43) = f_X9_setsWith ((f_X9_layTales x_houses x_people x_sights now tales sight went path home).1) (-9)) := c5
            refine vv_iconst (v := 0) hC dX9_sure_70 (by decide) ?_
            have hz := hJ6
            try simp only [f_X9_sure_x1, if_neg c5] at hz
            first | exact hz | (simp only [f_X9_sure_x1, if_neg c5]; exact hz)
          · have c5 : f_X9_setsWith ((f_X9_layTales x_houses x_people x_sights now tales sight went path home).1) (nI k43) = f_X9_setsWith ((f_X9_layTales x_houses x_people x_sights now tales sight went path home).1) (-9) := c5
            refine vv_iconst (v := 1) hC dX9_sure_63 (by decide) ?_
            refine vv_iload hC 4 dX9_sure_64 rfl ?_
            refine vv_ishl hC dX9_sure_66 ?_
            refine vv_goto hC 71 dX9_sure_67 (by decide) ?_
            have hz := hJ6
            try simp only [f_X9_sure_x1, if_pos c5] at hz
            first | exact hz | (simp only [f_X9_sure_x1, if_pos c5]; exact hz)
      refine vv_lv [3, 4, 2, 1, 0] rfl ?_
      refine hL7 x_people 0 0 (f_X9_sure_L43 x_houses x_people x_sights now tales sight went path home x_people 0 0) (by omega) rfl ?_
      refine vv_iload_n hC 1 dX9_sure_79 rfl rfl ?_
      refine vv_topi (nI (tn p1)) (inC_e (lo := 0) (hi := 2) (by decide) (by decide) (by decide) c2) ?_
      have hJ9 : V g X 5 w3 0 0 110 [(0, .ref (B 0)), (1, .int p1), (2, .int (f_X9_setsWith ((f_X9_layTales x_houses x_people x_sights now tales sight went path home).1) (-9))), (3, .int (f_X9_sure_L43 x_houses x_people x_sights now tales sight went path home x_people 0 0))] [.int (f_X9_sure_x2 x_houses x_people x_sights now tales sight went path home p1)] := by
        have hf : (f_X9_sure x_houses x_people x_sights now tales sight went path home p1) = ((f_X9_sure_x2 x_houses x_people x_sights now tales sight went path home p1), 0, (f_X9_layTales x_houses x_people x_sights now tales sight went path home).1, (f_X9_layTales x_houses x_people x_sights now tales sight went path home).2) := by first | (simp only [f_X9_sure, if_pos c2, if_neg c4]; done) | rfl | (simp only [f_X9_sure, if_pos c2, if_neg c4]; rfl)
        refine vv_iret hC hR rfl dX9_sure_110 (by omega) (by omega) ?_
        rw [hf]
        try dsimp only
        exact ⟨rfl, h_m, h_tales, h_went, hE⟩
      refine vv_if_ne hC 87 dX9_sure_80 (by decide) (fun c8 => ?_) (fun c8 => ?_)
      · have c8 : ¬ (tn p1 = 0) := fun z => c8 ((nI_eq_ (a := tn p1) (b := 0) (by omega) (by omega)).mpr z)
        refine vv_iload_n hC 1 dX9_sure_87 rfl rfl ?_
        refine vv_topi (nI (tn p1)) (inC_e (lo := 0) (hi := 2) (by decide) (by decide) (by decide) c2) ?_
        refine vv_iconst (v := 1) hC dX9_sure_88 (by decide) ?_
        refine vv_icmp_ne hC 106 dX9_sure_89 (by decide) (fun c10 => ?_) (fun c10 => ?_)
        · have c10 : ¬ (tn p1 = 1) := fun z => c10 ((nI_eq_ (a := tn p1) (b := 1) (by omega) (by omega)).mpr z)
          refine vv_aload_n hC 0 dX9_sure_106 rfl rfl ?_
          refine vv_callV hC dX9_sure_107 md_X9_suspects lk_m_X9_234 lk_i_X9_suspects lk_s_X9_suspects h_m rfl (As := []) (rest := []) (c_X9_suspects g w3 B hB 0 x_houses x_people x_paths x_acts x_size x_at x_readHouses x_readPeople x_readPaths x_sights x_drawn ((f_X9_layTales x_houses x_people x_sights now tales sight went path home).1) (by omega) h_m h_tales) rfl rfl (Nat.le_of_ble_eq_true rfl) ⟨by decide, by decide, by decide, by decide⟩ (fun r w9 hq => ?_)
          obtain ⟨rfl, rfl⟩ := hq
          show V g X 5 w3 0 0 110 [(0, .ref (B 0)), (1, .int p1), (2, .int (f_X9_setsWith ((f_X9_layTales x_houses x_people x_sights now tales sight went path home).1) (-9))), (3, .int (f_X9_sure_L43 x_houses x_people x_sights now tales sight went path home x_people 0 0))] [.int (f_X9_suspects x_people ((f_X9_layTales x_houses x_people x_sights now tales sight went path home).1))]
          have hz := hJ9
          try simp only [f_X9_sure_x2, if_neg c8, if_neg c10] at hz
          first | exact hz | (simp only [f_X9_sure_x2, if_neg c8, if_neg c10]; exact hz)
        · have c10 : tn p1 = 1 := (nI_eq_ (a := tn p1) (b := 1) (by omega) (by omega)).mp c10
          refine vv_aload_n hC 0 dX9_sure_92 rfl rfl ?_
          refine vv_callV hC dX9_sure_93 md_X9_there lk_m_X9_218 lk_i_X9_there lk_s_X9_there h_m rfl (As := []) (rest := []) (c_X9_there g w3 B hB 0 x_houses x_people x_paths x_acts x_size x_at x_readHouses x_readPeople x_readPaths x_sights x_drawn now (by omega) h_m h_now) rfl rfl (Nat.le_of_ble_eq_true rfl) ⟨by decide, by decide, by decide, by decide⟩ (fun r w9 hq => ?_)
          obtain ⟨rfl, rfl⟩ := hq
          show V g X 5 w3 0 0 96 [(0, .ref (B 0)), (1, .int p1), (2, .int (f_X9_setsWith ((f_X9_layTales x_houses x_people x_sights now tales sight went path home).1) (-9))), (3, .int (f_X9_sure_L43 x_houses x_people x_sights now tales sight went path home x_people 0 0))] [.int (f_X9_there x_people now)]
          refine vv_aload_n hC 0 dX9_sure_96 rfl rfl ?_
          refine vv_callV hC dX9_sure_97 md_X9_suspects lk_m_X9_234 lk_i_X9_suspects lk_s_X9_suspects h_m rfl (As := []) (rest := [.int (f_X9_there x_people now)]) (c_X9_suspects g w3 B hB 0 x_houses x_people x_paths x_acts x_size x_at x_readHouses x_readPeople x_readPaths x_sights x_drawn ((f_X9_layTales x_houses x_people x_sights now tales sight went path home).1) (by omega) h_m h_tales) rfl rfl (Nat.le_of_ble_eq_true rfl) ⟨by decide, by decide, by decide, by decide⟩ (fun r w9 hq => ?_)
          obtain ⟨rfl, rfl⟩ := hq
          show V g X 5 w3 0 0 100 [(0, .ref (B 0)), (1, .int p1), (2, .int (f_X9_setsWith ((f_X9_layTales x_houses x_people x_sights now tales sight went path home).1) (-9))), (3, .int (f_X9_sure_L43 x_houses x_people x_sights now tales sight went path home x_people 0 0))] [.int (f_X9_suspects x_people ((f_X9_layTales x_houses x_people x_sights now tales sight went path home).1)), .int (f_X9_there x_people now)]
          refine vv_iconst (v := (-1)) hC dX9_sure_100 (by decide) ?_
          refine vv_ixor hC dX9_sure_101 ?_
          refine vv_iand hC dX9_sure_102 ?_
          refine vv_goto hC 110 dX9_sure_103 (by decide) ?_
          have hz := hJ9
          try simp only [f_X9_sure_x2, if_neg c8, if_pos c10] at hz
          first | exact hz | (simp only [f_X9_sure_x2, if_neg c8, if_pos c10]; exact hz)
      · have c8 : tn p1 = 0 := (nI_eq_ (a := tn p1) (b := 0) (by omega) (by omega)).mp c8
        refine vv_iload_n hC 3 dX9_sure_83 rfl rfl ?_
        refine vv_goto hC 110 dX9_sure_84 (by decide) ?_
        have hz := hJ9
        try simp only [f_X9_sure_x2, if_pos c8] at hz
        first | exact hz | (simp only [f_X9_sure_x2, if_pos c8]; exact hz)
    · have c4 : f_X9_setsWith ((f_X9_layTales x_houses x_people x_sights now tales sight went path home).1) (-9) = 0 := c4
      refine vv_bipush (v := (-9)) hC dX9_sure_35 (by decide) ?_
      have hf : (f_X9_sure x_houses x_people x_sights now tales sight went path home p1) = ((-9), 0, (f_X9_layTales x_houses x_people x_sights now tales sight went path home).1, (f_X9_layTales x_houses x_people x_sights now tales sight went path home).2) := by first | (simp only [f_X9_sure, if_pos c2, if_pos c4]; done) | rfl | (simp only [f_X9_sure, if_pos c2, if_pos c4]; rfl)
      refine vv_iret hC hR rfl dX9_sure_37 (by omega) (by omega) ?_
      rw [hf]
      try dsimp only
      exact ⟨rfl, h_m, h_tales, h_went, hE⟩
  · have c2 : ¬ (f_X9_in p1.toInt64 0 2 = true) := bI_f c2
    refine vv_bipush (v := (-2)) hC dX9_sure_17 (by decide) ?_
    have hf : (f_X9_sure x_houses x_people x_sights now tales sight went path home p1) = ((-2), 0, tales, went) := by first | (simp only [f_X9_sure, if_neg c2]; done) | rfl | (simp only [f_X9_sure, if_neg c2]; rfl)
    refine vv_iret hC hR rfl dX9_sure_19 (by omega) (by omega) ?_
    rw [hf]
    try dsimp only
    exact ⟨rfl, h_m, h_tales, h_went, hE⟩
def f_X9_toTest_x1 (x_houses : Nat) (x_people : Nat) (x_sights : Nat) (now : Nat → Int32) (tales : Nat → Int64) (sight : Nat → Int32) (went : Nat → Int32) (path : Nat → Int32) (home : Nat → Int32) (k24 : Nat) : Int32 := (if f_X9_setsWith ((f_X9_layTales x_houses x_people x_sights now tales sight went path home).1) (nI k24) ≤ (f_X9_setsWith ((f_X9_layTales x_houses x_people x_sights now tales sight went path home).1) (-9) - f_X9_setsWith ((f_X9_layTales x_houses x_people x_sights now tales sight went path home).1) (nI k24)) then (f_X9_setsWith ((f_X9_layTales x_houses x_people x_sights now tales sight went path home).1) (-9) - f_X9_setsWith ((f_X9_layTales x_houses x_people x_sights now tales sight went path home).1) (nI k24)) else f_X9_setsWith ((f_X9_layTales x_houses x_people x_sights now tales sight went path home).1) (nI k24))
def f_X9_toTest_x2 (x_houses : Nat) (x_people : Nat) (x_sights : Nat) (now : Nat → Int32) (tales : Nat → Int64) (sight : Nat → Int32) (went : Nat → Int32) (path : Nat → Int32) (home : Nat → Int32) (k24 : Nat) (l2_24 : Int32) (l3_24 : Int32) : Int32 := (if f_X9_isThere now k24 = true then (if l2_24 = (-9) then (f_X9_toTest_x1 x_houses x_people x_sights now tales sight went path home k24) else (if l3_24 ≤ (f_X9_toTest_x1 x_houses x_people x_sights now tales sight went path home k24) then l3_24 else (f_X9_toTest_x1 x_houses x_people x_sights now tales sight went path home k24))) else l3_24)
def f_X9_toTest_L24 (x_houses : Nat) (x_people : Nat) (x_sights : Nat) (now : Nat → Int32) (tales : Nat → Int64) (sight : Nat → Int32) (went : Nat → Int32) (path : Nat → Int32) (home : Nat → Int32) : Nat → Nat → Int32 → Int32 → Int32 × Int32
  | 0, k24, l2_24, l3_24 => (l2_24, l3_24)
  | r24 + 1, k24, l2_24, l3_24 => (if f_X9_setsWith ((f_X9_layTales x_houses x_people x_sights now tales sight went path home).1) (-9) ≤ 0 then (l2_24, l3_24) else f_X9_toTest_L24 x_houses x_people x_sights now tales sight went path home r24 (k24 + 1) (if f_X9_isThere now k24 = true then (if l2_24 = (-9) then nI k24 else (if l3_24 ≤ (f_X9_toTest_x1 x_houses x_people x_sights now tales sight went path home k24) then l2_24 else nI k24)) else l2_24) (f_X9_toTest_x2 x_houses x_people x_sights now tales sight went path home k24 l2_24 l3_24))
def f_X9_toTest (x_houses : Nat) (x_people : Nat) (x_sights : Nat) (now : Nat → Int32) (tales : Nat → Int64) (sight : Nat → Int32) (went : Nat → Int32) (path : Nat → Int32) (home : Nat → Int32) : Int32 × Int32 × (Nat → Int64) × (Nat → Int32) := ((f_X9_toTest_L24 x_houses x_people x_sights now tales sight went path home x_people 0 (-9) 0).1, 0, (f_X9_layTales x_houses x_people x_sights now tales sight went path home).1, (f_X9_layTales x_houses x_people x_sights now tales sight went path home).2)
set_option maxHeartbeats 4000000 in
set_option maxRecDepth 100000 in
theorem c_X9_toTest (g : GT) (w0 : Wd) (B : Nat → Nat) (hB : ∀ i j, i < 60 → j < 60 → B i = B j → i = j) (x_thrown : Int32) (x_houses : Nat) (x_people : Nat) (x_paths : Nat) (x_acts : Nat) (x_size : Nat) (x_at : Nat) (x_readHouses : Nat) (x_readPeople : Nat) (x_readPaths : Nat) (x_sights : Nat) (x_drawn : Int64) (now : Nat → Int32) (tales : Nat → Int64) (sight : Nat → Int32) (went : Nat → Int32) (path : Nat → Int32) (home : Nat → Int32) (hxp : x_people ≤ 6) (hxh : x_houses ≤ 4) (hom : ∀ q, q < 6 → home q = nI (tn (home q)) ∧ tn (home q) < 4) (hsi : x_sights ≤ 6) (hendW : ∀ (set moon : Int32) (w : Nat → Int32), f_X9_waysOf_L26_E x_houses x_people x_sights sight path home now set moon fuelW 0 true (f_X9_waysOf_L2 6 0 w) = true) (h_m : w0 (B 0) = some (.inr (9, cM B (x_thrown, x_houses, x_people, x_paths, x_acts, x_size, x_at, x_readHouses, x_readPeople, x_readPaths, x_sights, x_drawn)))) (h_now : w0 (B 7) = some (.inl (g.2.2.1 0, 43, .inl now))) (h_tales : w0 (B 25) = some (.inl (g.2.2.1 1, 64, .inr (.inl tales)))) (h_sight : w0 (B 22) = some (.inl (g.2.2.1 0, 24, .inl sight))) (h_went : w0 (B 24) = some (.inl (g.2.2.1 0, 6, .inl went))) (h_path : w0 (B 4) = some (.inl (g.2.2.1 0, 16, .inl path))) (h_home : w0 (B 5) = some (.inl (g.2.2.1 0, 6, .inl home))) : CT g yX9_toTest cX9_toTest 7 (some .int) 5 122 0 0 w0 [.ref (B 0)] (fun r w2 => r = some (.int ((f_X9_toTest x_houses x_people x_sights now tales sight went path home).1)) ∧ w2 (B 0) = some (.inr (9, cM B ((f_X9_toTest x_houses x_people x_sights now tales sight went path home).2.1, x_houses, x_people, x_paths, x_acts, x_size, x_at, x_readHouses, x_readPeople, x_readPaths, x_sights, x_drawn))) ∧ w2 (B 25) = some (.inl (g.2.2.1 1, 64, .inr (.inl ((f_X9_toTest x_houses x_people x_sights now tales sight went path home).2.2.1)))) ∧ w2 (B 24) = some (.inl (g.2.2.1 0, 6, .inl ((f_X9_toTest x_houses x_people x_sights now tales sight went path home).2.2.2))) ∧ wE (fun q => q = (B 0) ∨ q = (B 25) ∨ q = (B 24)) w0 w2) := by
  refine CT.of (own := RX9) (by decide +kernel) rfl (Nat.le_of_ble_eq_true rfl) (fun X hC hR hI => ?_)
  show V g X 7 w0 0 0 0 [(0, .ref (B 0))] []
  have hE : wE (fun q => q = (B 0) ∨ q = (B 25) ∨ q = (B 24)) w0 w0 := wE.refl
  refine vv_aload_n hC 0 dX9_toTest_0 rfl rfl ?_
  refine vv_iconst (v := 0) hC dX9_toTest_1 (by decide) ?_
  refine vv_put hC fp_X9_69 dX9_toTest_2 h_m rfl rfl (Nat.le_of_ble_eq_true rfl) (fun w1 t1 hs => ?_)
  have t1 : w1 (B 0) = some (.inr (9, cM B (0, x_houses, x_people, x_paths, x_acts, x_size, x_at, x_readHouses, x_readPeople, x_readPaths, x_sights, x_drawn))) := t1.trans (congrArg (fun z => some (Sum.inr (9, z))) (eM_thrown _ _ _ _ _ _ _ _ _ _ _ _ _ _))
  have h_now := hs _ _ (fw_ao h_now h_m) h_now
  have h_tales := hs _ _ (fw_ao h_tales h_m) h_tales
  have h_sight := hs _ _ (fw_ao h_sight h_m) h_sight
  have h_went := hs _ _ (fw_ao h_went h_m) h_went
  have h_path := hs _ _ (fw_ao h_path h_m) h_path
  have h_home := hs _ _ (fw_ao h_home h_m) h_home
  have h_m := t1
  have hE := hE.trans (hs.mono (fun _ z => (Or.inl z)))
  refine vv_aload_n hC 0 dX9_toTest_5 rfl rfl ?_
  refine vv_callV hC dX9_toTest_6 md_X9_layTales lk_m_X9_228 lk_i_X9_layTales lk_s_X9_layTales h_m rfl (As := []) (rest := []) (c_X9_layTales g w1 B hB 0 x_houses x_people x_paths x_acts x_size x_at x_readHouses x_readPeople x_readPaths x_sights x_drawn now tales sight went path home (by omega) (by omega) (hom) (by omega) (hendW) h_m h_now h_tales h_sight h_went h_path h_home) rfl rfl (Nat.le_of_ble_eq_true rfl) ⟨by decide, by decide, by decide, by decide⟩ (fun r w9 hq => ?_)
  obtain ⟨rfl, t1, t2, hs⟩ := hq
  obtain ⟨w2, rfl⟩ : ∃ z, z = w9 := ⟨_, rfl⟩
  have h_m := hs _ _ (fun z => z.elim (fw_oa h_m h_tales) (fw_oa h_m h_went)) h_m
  have h_now := hs _ _ (fun z => z.elim (fw_inj hB (by decide) (by decide) (by decide)) (fw_inj hB (by decide) (by decide) (by decide))) h_now
  have h_sight := hs _ _ (fun z => z.elim (fw_inj hB (by decide) (by decide) (by decide)) (fw_inj hB (by decide) (by decide) (by decide))) h_sight
  have h_path := hs _ _ (fun z => z.elim (fw_inj hB (by decide) (by decide) (by decide)) (fw_inj hB (by decide) (by decide) (by decide))) h_path
  have h_home := hs _ _ (fun z => z.elim (fw_inj hB (by decide) (by decide) (by decide)) (fw_inj hB (by decide) (by decide) (by decide))) h_home
  have h_tales := t1
  have h_went := t2
  have hE := hE.trans (hs.mono (fun _ z => z.elim (fun z => (Or.inr (Or.inl z))) (fun z => (Or.inr (Or.inr z)))))
  show V g X 7 w2 0 0 9 [(0, .ref (B 0))] []
  refine vv_aload_n hC 0 dX9_toTest_9 rfl rfl ?_
  refine vv_bipush (v := (-9)) hC dX9_toTest_10 (by decide) ?_
  refine vv_callV hC dX9_toTest_12 md_X9_setsWith lk_m_X9_231 lk_i_X9_setsWith lk_s_X9_setsWith h_m rfl (As := [.int (-9)]) (rest := []) (c_X9_setsWith g w2 B hB 0 x_houses x_people x_paths x_acts x_size x_at x_readHouses x_readPeople x_readPaths x_sights x_drawn ((f_X9_layTales x_houses x_people x_sights now tales sight went path home).1) (-9) h_m h_tales) rfl rfl (Nat.le_of_ble_eq_true rfl) ⟨by decide, by decide, by decide, by decide⟩ (fun r w9 hq => ?_)
  obtain ⟨rfl, rfl⟩ := hq
  show V g X 7 w2 0 0 15 [(0, .ref (B 0))] [.int (f_X9_setsWith ((f_X9_layTales x_houses x_people x_sights now tales sight went path home).1) (-9))]
  refine vv_istore_n (lv2 := [(1, .int (f_X9_setsWith ((f_X9_layTales x_houses x_people x_sights now tales sight went path home).1) (-9))), (0, .ref (B 0))]) hC dX9_toTest_15 rfl (by decide) rfl ?_
  refine vv_bipush (v := (-9)) hC dX9_toTest_16 (by decide) ?_
  refine vv_istore_n (lv2 := [(2, .int (-9)), (1, .int (f_X9_setsWith ((f_X9_layTales x_houses x_people x_sights now tales sight went path home).1) (-9))), (0, .ref (B 0))]) hC dX9_toTest_18 rfl (by decide) rfl ?_
  refine vv_iconst (v := 0) hC dX9_toTest_19 (by decide) ?_
  refine vv_istore_n (lv2 := [(3, .int 0), (2, .int (-9)), (1, .int (f_X9_setsWith ((f_X9_layTales x_houses x_people x_sights now tales sight went path home).1) (-9))), (0, .ref (B 0))]) hC dX9_toTest_20 rfl (by decide) rfl ?_
  refine vv_iconst (v := 0) hC dX9_toTest_21 (by decide) ?_
  refine vv_istore (lv2 := [(4, .int 0), (3, .int 0), (2, .int (-9)), (1, .int (f_X9_setsWith ((f_X9_layTales x_houses x_people x_sights now tales sight went path home).1) (-9))), (0, .ref (B 0))]) hC dX9_toTest_22 (by decide) rfl ?_
  have hL10 : ∀ (r24 k24 : Nat) (l2_24 : Int32) (l3_24 : Int32) (out : Int32 × Int32), k24 + r24 = x_people → out = f_X9_toTest_L24 x_houses x_people x_sights now tales sight went path home r24 k24 l2_24 l3_24 → V g X 7 w2 0 0 98 [(0, .ref (B 0)), (1, .int (f_X9_setsWith ((f_X9_layTales x_houses x_people x_sights now tales sight went path home).1) (-9))), (2, .int out.1), (3, .int out.2)] [] → V g X 7 w2 0 0 24 [(0, .ref (B 0)), (1, .int (f_X9_setsWith ((f_X9_layTales x_houses x_people x_sights now tales sight went path home).1) (-9))), (2, .int l2_24), (3, .int l3_24), (4, .int (nI k24))] [] := by
    intro r24
    induction r24 with
    | zero =>
      intro k24 l2_24 l3_24 out hb ho hk
      refine vv_iload hC 4 dX9_toTest_24 rfl ?_
      refine vv_aload_n hC 0 dX9_toTest_26 rfl rfl ?_
      refine vv_get (v := .int (nI x_people)) hC fl_X9_80 dX9_toTest_27 h_m rfl ?_
      refine vv_icmp_ge hC 98 dX9_toTest_30 (by decide) (fun c => ?_) (fun c => False.elim (c ((nI_le_ (a := x_people) (b := k24) (by omega) (by omega)).mpr (by omega))))
      refine vv_lv [0, 1, 2, 3] rfl ?_
      have ho := ho.trans (by first | (simp only [f_X9_toTest_L24]; done) | rfl | (simp only [f_X9_toTest_L24]; rfl) : _ = (l2_24, l3_24))
      subst ho
      exact hk
    | succ r24 ih =>
      intro k24 l2_24 l3_24 out hb ho hk
      refine vv_iload hC 4 dX9_toTest_24 rfl ?_
      refine vv_aload_n hC 0 dX9_toTest_26 rfl rfl ?_
      refine vv_get (v := .int (nI x_people)) hC fl_X9_80 dX9_toTest_27 h_m rfl ?_
      refine vv_icmp_ge hC 98 dX9_toTest_30 (by decide) (fun c => absurd ((nI_le_ (a := x_people) (b := k24) (by omega) (by omega)).mp c) (by first | omega | decide)) (fun c => ?_)
      refine vv_iload_n hC 1 dX9_toTest_33 rfl rfl ?_
      refine vv_if_le hC 98 dX9_toTest_34 (by decide) (fun c3 => ?_) (fun c3 => ?_)
      · have c3 : f_X9_setsWith ((f_X9_layTales x_houses x_people x_sights now tales sight went path home).1) (-9) ≤ 0 := c3
        refine vv_lv [0, 1, 2, 3] rfl ?_
        have ho := ho.trans (by first | (simp only [f_X9_toTest_L24, if_pos c3]; done) | rfl | (simp only [f_X9_toTest_L24, if_pos c3]; rfl) : _ = (l2_24, l3_24))
        subst ho
        exact hk
      · have c3 : ¬ (f_X9_setsWith ((f_X9_layTales x_houses x_people x_sights now tales sight went path home).1) (-9) ≤ 0) := c3
        refine vv_aload_n hC 0 dX9_toTest_37 rfl rfl ?_
        refine vv_iload hC 4 dX9_toTest_38 rfl ?_
        refine vv_callV hC dX9_toTest_40 md_X9_setsWith lk_m_X9_231 lk_i_X9_setsWith lk_s_X9_setsWith h_m rfl (As := [.int (nI k24)]) (rest := []) (c_X9_setsWith g w2 B hB 0 x_houses x_people x_paths x_acts x_size x_at x_readHouses x_readPeople x_readPaths x_sights x_drawn ((f_X9_layTales x_houses x_people x_sights now tales sight went path home).1) (nI k24) h_m h_tales) rfl rfl (Nat.le_of_ble_eq_true rfl) ⟨by decide, by decide, by decide, by decide⟩ (fun r w9 hq => ?_)
        obtain ⟨rfl, rfl⟩ := hq
        show V g X 7 w2 0 0 43 [(0, .ref (B 0)), (1, .int (f_X9_setsWith ((f_X9_layTales x_houses x_people x_sights now tales sight went path home).1) (-9))), (2, .int l2_24), (3, .int l3_24), (4, .int (nI k24))] [.int (f_X9_setsWith ((f_X9_layTales x_houses x_people x_sights now tales sight went path home).1) (nI k24))]
        refine vv_istore (lv2 := [(5, .int (f_X9_setsWith ((f_X9_layTales x_houses x_people x_sights now tales sight went path home).1) (nI k24))), (0, .ref (B 0)), (1, .int (f_X9_setsWith ((f_X9_layTales x_houses x_people x_sights now tales sight went path home).1) (-9))), (2, .int l2_24), (3, .int l3_24), (4, .int (nI k24))]) hC dX9_toTest_43 (by decide) rfl ?_
        refine vv_iload hC 0 dX9_toTest_45 rfl ?_
        refine vv_iload_n hC 2 dX9_toTest_47 rfl rfl ?_
        refine vv_iload hC 0 dX9_toTest_48 rfl ?_
        refine vv_isub hC dX9_toTest_50 ?_
        have hJ5 : V g X 7 w2 0 0 63 [(0, .ref (B 0)), (1, .int (f_X9_setsWith ((f_X9_layTales x_houses x_people x_sights now tales sight went path home).1) (-9))), (2, .int l2_24), (3, .int l3_24), (4, .int (nI k24)), (5, .int (f_X9_setsWith ((f_X9_layTales x_houses x_people x_sights now tales sight went path home).1) (nI k24)))] [.int (f_X9_toTest_x1 x_houses x_people x_sights now tales sight went path home k24)] := by
          refine vv_istore (lv2 := [(6, .int (f_X9_toTest_x1 x_houses x_people x_sights now tales sight went path home k24)), (0, .ref (B 0)), (1, .int (f_X9_setsWith ((f_X9_layTales x_houses x_people x_sights now tales sight went path home).1) (-9))), (2, .int l2_24), (3, .int l3_24), (4, .int (nI k24)), (5, .int (f_X9_setsWith ((f_X9_layTales x_houses x_people x_sights now tales sight went path home).1) (nI k24)))]) hC dX9_toTest_63 (by decide) rfl ?_
          refine vv_aload_n hC 1 dX9_toTest_65 rfl rfl ?_
          refine vv_iload hC 5 dX9_toTest_66 rfl ?_
          refine vv_callV hC dX9_toTest_68 md_X9_isThere lk_m_X9_87 lk_i_X9_isThere lk_s_X9_isThere h_m rfl (As := [.int (nI k24)]) (rest := []) (c_X9_isThere g w2 B hB 0 x_houses x_people x_paths x_acts x_size x_at x_readHouses x_readPeople x_readPaths x_sights x_drawn now k24 (by omega) h_m h_now) rfl rfl (Nat.le_of_ble_eq_true rfl) ⟨by decide, by decide, by decide, by decide⟩ (fun r w9 hq => ?_)
          obtain ⟨rfl, rfl⟩ := hq
          show V g X 7 w2 0 0 71 [(6, .int (f_X9_toTest_x1 x_houses x_people x_sights now tales sight went path home k24)), (0, .ref (B 0)), (1, .int (f_X9_setsWith ((f_X9_layTales x_houses x_people x_sights now tales sight went path home).1) (-9))), (2, .int l2_24), (3, .int l3_24), (4, .int (nI k24)), (5, .int (f_X9_setsWith ((f_X9_layTales x_houses x_people x_sights now tales sight went path home).1) (nI k24)))] [.int (bI (f_X9_isThere now k24))]
          have hJ7 : V g X 7 w2 0 0 92 [(0, .ref (B 0)), (1, .int (f_X9_setsWith ((f_X9_layTales x_houses x_people x_sights now tales sight went path home).1) (-9))), (2, .int (if f_X9_isThere now k24 = true then (if l2_24 = (-9) then nI k24 else (if l3_24 ≤ (f_X9_toTest_x1 x_houses x_people x_sights now tales sight went path home k24) then l2_24 else nI k24)) else l2_24)), (3, .int (f_X9_toTest_x2 x_houses x_people x_sights now tales sight went path home k24 l2_24 l3_24)), (4, .int (nI k24)), (5, .int (f_X9_setsWith ((f_X9_layTales x_houses x_people x_sights now tales sight went path home).1) (nI k24))), (6, .int (f_X9_toTest_x1 x_houses x_people x_sights now tales sight went path home k24))] [] := by
            refine vv_iinc (lv2 := [(4, .int (nI (k24 + 1))), (0, .ref (B 0)), (1, .int (f_X9_setsWith ((f_X9_layTales x_houses x_people x_sights now tales sight went path home).1) (-9))), (2, .int (if f_X9_isThere now k24 = true then (if l2_24 = (-9) then nI k24 else (if l3_24 ≤ (f_X9_toTest_x1 x_houses x_people x_sights now tales sight went path home k24) then l2_24 else nI k24)) else l2_24)), (3, .int (f_X9_toTest_x2 x_houses x_people x_sights now tales sight went path home k24 l2_24 l3_24)), (5, .int (f_X9_setsWith ((f_X9_layTales x_houses x_people x_sights now tales sight went path home).1) (nI k24))), (6, .int (f_X9_toTest_x1 x_houses x_people x_sights now tales sight went path home k24))]) hC 4 dX9_toTest_92 rfl (nI_add k24 1) (by decide) rfl ?_
            refine vv_goto hC 24 dX9_toTest_95 (by decide) ?_
            refine vv_lv [1, 2, 3, 4, 0] rfl ?_
            exact ih (k24 + 1) (if f_X9_isThere now k24 = true then (if l2_24 = (-9) then nI k24 else (if l3_24 ≤ (f_X9_toTest_x1 x_houses x_people x_sights now tales sight went path home k24) then l2_24 else nI k24)) else l2_24) (f_X9_toTest_x2 x_houses x_people x_sights now tales sight went path home k24 l2_24 l3_24) out (by omega) (ho.trans (by first | (simp only [f_X9_toTest_L24, if_neg c3]; done) | rfl | (simp only [f_X9_toTest_L24, if_neg c3]; rfl))) hk
          refine vv_if_eq hC 92 dX9_toTest_71 (by decide) (fun c6 => ?_) (fun c6 => ?_)
          · have c6 : ¬ (f_X9_isThere now k24 = true) := bI_f c6
            refine vv_lv [1, 2, 3, 4, 5, 6, 0] rfl ?_
            have hz := hJ7
            try simp only [f_X9_toTest_x2, if_neg c6] at hz
            first | exact hz | (simp only [f_X9_toTest_x2, if_neg c6]; exact hz)
          · have c6 : f_X9_isThere now k24 = true := bI_t c6
            refine vv_iload_n hC 3 dX9_toTest_74 rfl rfl ?_
            refine vv_bipush (v := (-9)) hC dX9_toTest_75 (by decide) ?_
            refine vv_icmp_eq hC 86 dX9_toTest_77 (by decide) (fun c8 => ?_) (fun c8 => ?_)
            · have c8 : l2_24 = (-9) := c8
              refine vv_iload hC 5 dX9_toTest_86 rfl ?_
              refine vv_istore_n (lv2 := [(2, .int (nI k24)), (6, .int (f_X9_toTest_x1 x_houses x_people x_sights now tales sight went path home k24)), (0, .ref (B 0)), (1, .int (f_X9_setsWith ((f_X9_layTales x_houses x_people x_sights now tales sight went path home).1) (-9))), (3, .int l3_24), (4, .int (nI k24)), (5, .int (f_X9_setsWith ((f_X9_layTales x_houses x_people x_sights now tales sight went path home).1) (nI k24)))]) hC dX9_toTest_88 rfl (by decide) rfl ?_
              refine vv_iload hC 1 dX9_toTest_89 rfl ?_
              refine vv_istore_n (lv2 := [(3, .int (f_X9_toTest_x1 x_houses x_people x_sights now tales sight went path home k24)), (2, .int (nI k24)), (6, .int (f_X9_toTest_x1 x_houses x_people x_sights now tales sight went path home k24)), (0, .ref (B 0)), (1, .int (f_X9_setsWith ((f_X9_layTales x_houses x_people x_sights now tales sight went path home).1) (-9))), (4, .int (nI k24)), (5, .int (f_X9_setsWith ((f_X9_layTales x_houses x_people x_sights now tales sight went path home).1) (nI k24)))]) hC dX9_toTest_91 rfl (by decide) rfl ?_
              refine vv_lv [3, 4, 1, 0, 5, 6, 2] rfl ?_
              have hz := hJ7
              try simp only [f_X9_toTest_x2, if_pos c6, if_pos c8] at hz
              first | exact hz | (simp only [f_X9_toTest_x2, if_pos c6, if_pos c8]; exact hz)
            · have c8 : ¬ (l2_24 = (-9)) := c8
              refine vv_iload hC 0 dX9_toTest_80 rfl ?_
              refine vv_iload_n hC 4 dX9_toTest_82 rfl rfl ?_
              refine vv_icmp_ge hC 92 dX9_toTest_83 (by decide) (fun c9 => ?_) (fun c9 => ?_)
              · have c9 : l3_24 ≤ (f_X9_toTest_x1 x_houses x_people x_sights now tales sight went path home k24) := c9
                refine vv_lv [1, 2, 3, 4, 5, 6, 0] rfl ?_
                have hz := hJ7
                try simp only [f_X9_toTest_x2, if_pos c6, if_neg c8, if_pos c9] at hz
                first | exact hz | (simp only [f_X9_toTest_x2, if_pos c6, if_neg c8, if_pos c9]; exact hz)
              · have c9 : ¬ (l3_24 ≤ (f_X9_toTest_x1 x_houses x_people x_sights now tales sight went path home k24)) := c9
                refine vv_iload hC 5 dX9_toTest_86 rfl ?_
                refine vv_istore_n (lv2 := [(2, .int (nI k24)), (6, .int (f_X9_toTest_x1 x_houses x_people x_sights now tales sight went path home k24)), (0, .ref (B 0)), (1, .int (f_X9_setsWith ((f_X9_layTales x_houses x_people x_sights now tales sight went path home).1) (-9))), (3, .int l3_24), (4, .int (nI k24)), (5, .int (f_X9_setsWith ((f_X9_layTales x_houses x_people x_sights now tales sight went path home).1) (nI k24)))]) hC dX9_toTest_88 rfl (by decide) rfl ?_
                refine vv_iload hC 1 dX9_toTest_89 rfl ?_
                refine vv_istore_n (lv2 := [(3, .int (f_X9_toTest_x1 x_houses x_people x_sights now tales sight went path home k24)), (2, .int (nI k24)), (6, .int (f_X9_toTest_x1 x_houses x_people x_sights now tales sight went path home k24)), (0, .ref (B 0)), (1, .int (f_X9_setsWith ((f_X9_layTales x_houses x_people x_sights now tales sight went path home).1) (-9))), (4, .int (nI k24)), (5, .int (f_X9_setsWith ((f_X9_layTales x_houses x_people x_sights now tales sight went path home).1) (nI k24)))]) hC dX9_toTest_91 rfl (by decide) rfl ?_
                refine vv_lv [3, 4, 1, 0, 5, 6, 2] rfl ?_
                have hz := hJ7
                try simp only [f_X9_toTest_x2, if_pos c6, if_neg c8, if_neg c9] at hz
                first | exact hz | (simp only [f_X9_toTest_x2, if_pos c6, if_neg c8, if_neg c9]; exact hz)
        refine vv_icmp_le hC 59 dX9_toTest_51 (by decide) (fun c4 => ?_) (fun c4 => ?_)
        · have c4 : f_X9_setsWith ((f_X9_layTales x_houses x_people x_sights now tales sight went path home).1) (nI k24) ≤ (f_X9_setsWith ((f_X9_layTales x_houses x_people x_sights now tales sight went path home).1) (-9) - f_X9_setsWith ((f_X9_layTales x_houses x_people x_sights now tales sight went path home).1) (nI k24)) := c4
          refine vv_iload_n hC 2 dX9_toTest_59 rfl rfl ?_
          refine vv_iload hC 0 dX9_toTest_60 rfl ?_
          refine vv_isub hC dX9_toTest_62 ?_
          refine vv_lv [1, 2, 3, 4, 5, 0] rfl ?_
          have hz := hJ5
          try simp only [f_X9_toTest_x1, if_pos c4] at hz
          first | exact hz | (simp only [f_X9_toTest_x1, if_pos c4]; exact hz)
        · have c4 : ¬ (f_X9_setsWith ((f_X9_layTales x_houses x_people x_sights now tales sight went path home).1) (nI k24) ≤ (f_X9_setsWith ((f_X9_layTales x_houses x_people x_sights now tales sight went path home).1) (-9) - f_X9_setsWith ((f_X9_layTales x_houses x_people x_sights now tales sight went path home).1) (nI k24))) := c4
          refine vv_iload hC 0 dX9_toTest_54 rfl ?_
          refine vv_goto hC 63 dX9_toTest_56 (by decide) ?_
          refine vv_lv [1, 2, 3, 4, 5, 0] rfl ?_
          have hz := hJ5
          try simp only [f_X9_toTest_x1, if_neg c4] at hz
          first | exact hz | (simp only [f_X9_toTest_x1, if_neg c4]; exact hz)
  refine vv_lv [4, 3, 2, 1, 0] rfl ?_
  refine hL10 x_people 0 (-9) 0 (f_X9_toTest_L24 x_houses x_people x_sights now tales sight went path home x_people 0 (-9) 0) (by omega) rfl ?_
  refine vv_iload_n hC 2 dX9_toTest_98 rfl rfl ?_
  have hf : (f_X9_toTest x_houses x_people x_sights now tales sight went path home) = ((f_X9_toTest_L24 x_houses x_people x_sights now tales sight went path home x_people 0 (-9) 0).1, 0, (f_X9_layTales x_houses x_people x_sights now tales sight went path home).1, (f_X9_layTales x_houses x_people x_sights now tales sight went path home).2) := by first | (simp only [f_X9_toTest]; done) | rfl | (simp only [f_X9_toTest]; rfl)
  refine vv_iret hC hR rfl dX9_toTest_99 (by omega) (by omega) ?_
  rw [hf]
  try dsimp only
  exact ⟨rfl, h_m, h_tales, h_went, hE⟩
def f_X9_voteOf_x1 (now : Nat → Int32) (tales : Nat → Int64) (p1 : Nat) (k5 : Nat) (l2_5 : Int32) : Int32 := (if (if k5 = p1 then false else (if f_X9_isThere now k5 = true then (if f_X9_of now p1 0 = 0 then true else (if f_X9_of now k5 0 = 0 then true else false)) else false)) = true then (if l2_5 = (-9) then nI k5 else (if f_X9_setsWith tales (nI k5) ≤ f_X9_setsWith tales l2_5 then l2_5 else nI k5)) else l2_5)
def f_X9_voteOf_L5 (now : Nat → Int32) (tales : Nat → Int64) (p1 : Nat) : Nat → Nat → Int32 → Int32
  | 0, k5, l2_5 => l2_5
  | r5 + 1, k5, l2_5 => f_X9_voteOf_L5 now tales p1 r5 (k5 + 1) (f_X9_voteOf_x1 now tales p1 k5 l2_5)
def f_X9_voteOf (x_people : Nat) (now : Nat → Int32) (tales : Nat → Int64) (p1 : Nat) : Int32 := (f_X9_voteOf_L5 now tales p1 x_people 0 (-9))
set_option maxHeartbeats 4000000 in
set_option maxRecDepth 100000 in
theorem c_X9_voteOf (g : GT) (w0 : Wd) (B : Nat → Nat) (hB : ∀ i j, i < 60 → j < 60 → B i = B j → i = j) (x_thrown : Int32) (x_houses : Nat) (x_people : Nat) (x_paths : Nat) (x_acts : Nat) (x_size : Nat) (x_at : Nat) (x_readHouses : Nat) (x_readPeople : Nat) (x_readPaths : Nat) (x_sights : Nat) (x_drawn : Int64) (now : Nat → Int32) (tales : Nat → Int64) (p1 : Nat) (hxp : x_people ≤ 6) (hp : p1 < 6) (h_m : w0 (B 0) = some (.inr (9, cM B (x_thrown, x_houses, x_people, x_paths, x_acts, x_size, x_at, x_readHouses, x_readPeople, x_readPaths, x_sights, x_drawn)))) (h_now : w0 (B 7) = some (.inl (g.2.2.1 0, 43, .inl now))) (h_tales : w0 (B 25) = some (.inl (g.2.2.1 1, 64, .inr (.inl tales)))) : CT g yX9_voteOf cX9_voteOf 5 (some .int) 2 44 0 0 w0 [.ref (B 0), .int (nI p1)] (fun r w2 => r = some (.int (f_X9_voteOf x_people now tales p1)) ∧ w0 = w2) := by
  refine CT.of (own := RX9) (by decide +kernel) rfl (Nat.le_of_ble_eq_true rfl) (fun X hC hR hI => ?_)
  show V g X 5 w0 0 0 0 [(0, .ref (B 0)), (1, .int (nI p1))] []
  refine vv_bipush (v := (-9)) hC dX9_voteOf_0 (by decide) ?_
  refine vv_istore_n (lv2 := [(2, .int (-9)), (0, .ref (B 0)), (1, .int (nI p1))]) hC dX9_voteOf_2 rfl (by decide) rfl ?_
  refine vv_iconst (v := 0) hC dX9_voteOf_3 (by decide) ?_
  refine vv_istore_n (lv2 := [(3, .int 0), (2, .int (-9)), (0, .ref (B 0)), (1, .int (nI p1))]) hC dX9_voteOf_4 rfl (by decide) rfl ?_
  have hL10 : ∀ (r5 k5 : Nat) (l2_5 : Int32) (out : Int32), k5 + r5 = x_people → out = f_X9_voteOf_L5 now tales p1 r5 k5 l2_5 → V g X 5 w0 0 0 87 [(0, .ref (B 0)), (1, .int (nI p1)), (2, .int out)] [] → V g X 5 w0 0 0 5 [(0, .ref (B 0)), (1, .int (nI p1)), (2, .int l2_5), (3, .int (nI k5))] [] := by
    intro r5
    induction r5 with
    | zero =>
      intro k5 l2_5 out hb ho hk
      refine vv_iload_n hC 3 dX9_voteOf_5 rfl rfl ?_
      refine vv_aload_n hC 0 dX9_voteOf_6 rfl rfl ?_
      refine vv_get (v := .int (nI x_people)) hC fl_X9_80 dX9_voteOf_7 h_m rfl ?_
      refine vv_icmp_ge hC 87 dX9_voteOf_10 (by decide) (fun c => ?_) (fun c => False.elim (c ((nI_le_ (a := x_people) (b := k5) (by omega) (by omega)).mpr (by omega))))
      refine vv_lv [0, 1, 2] rfl ?_
      have ho := ho.trans (by first | (simp only [f_X9_voteOf_L5]; done) | rfl | (simp only [f_X9_voteOf_L5]; rfl) : _ = l2_5)
      subst ho
      exact hk
    | succ r5 ih =>
      intro k5 l2_5 out hb ho hk
      refine vv_iload_n hC 3 dX9_voteOf_5 rfl rfl ?_
      refine vv_aload_n hC 0 dX9_voteOf_6 rfl rfl ?_
      refine vv_get (v := .int (nI x_people)) hC fl_X9_80 dX9_voteOf_7 h_m rfl ?_
      refine vv_icmp_ge hC 87 dX9_voteOf_10 (by decide) (fun c => absurd ((nI_le_ (a := x_people) (b := k5) (by omega) (by omega)).mp c) (by first | omega | decide)) (fun c => ?_)
      refine vv_iload_n hC 3 dX9_voteOf_13 rfl rfl ?_
      refine vv_iload_n hC 1 dX9_voteOf_14 rfl rfl ?_
      have hJ2 : V g X 5 w0 0 0 49 [(0, .ref (B 0)), (1, .int (nI p1)), (2, .int l2_5), (3, .int (nI k5))] [.int (bI (if k5 = p1 then false else (if f_X9_isThere now k5 = true then (if f_X9_of now p1 0 = 0 then true else (if f_X9_of now k5 0 = 0 then true else false)) else false)))] := by
        refine vv_istore (lv2 := [(4, .int (bI (if k5 = p1 then false else (if f_X9_isThere now k5 = true then (if f_X9_of now p1 0 = 0 then true else (if f_X9_of now k5 0 = 0 then true else false)) else false)))), (0, .ref (B 0)), (1, .int (nI p1)), (2, .int l2_5), (3, .int (nI k5))]) hC dX9_voteOf_49 (by decide) rfl ?_
        refine vv_iload hC 0 dX9_voteOf_51 rfl ?_
        have hJ7 : V g X 5 w0 0 0 80 [(0, .ref (B 0)), (1, .int (nI p1)), (2, .int l2_5), (3, .int (nI k5)), (4, .int (bI (if k5 = p1 then false else (if f_X9_isThere now k5 = true then (if f_X9_of now p1 0 = 0 then true else (if f_X9_of now k5 0 = 0 then true else false)) else false))))] [.int (f_X9_voteOf_x1 now tales p1 k5 l2_5)] := by
          refine vv_istore_n (lv2 := [(2, .int (f_X9_voteOf_x1 now tales p1 k5 l2_5)), (0, .ref (B 0)), (1, .int (nI p1)), (3, .int (nI k5)), (4, .int (bI (if k5 = p1 then false else (if f_X9_isThere now k5 = true then (if f_X9_of now p1 0 = 0 then true else (if f_X9_of now k5 0 = 0 then true else false)) else false))))]) hC dX9_voteOf_80 rfl (by decide) rfl ?_
          refine vv_iinc (lv2 := [(3, .int (nI (k5 + 1))), (2, .int (f_X9_voteOf_x1 now tales p1 k5 l2_5)), (0, .ref (B 0)), (1, .int (nI p1)), (4, .int (bI (if k5 = p1 then false else (if f_X9_isThere now k5 = true then (if f_X9_of now p1 0 = 0 then true else (if f_X9_of now k5 0 = 0 then true else false)) else false))))]) hC 3 dX9_voteOf_81 rfl (nI_add k5 1) (by decide) rfl ?_
          refine vv_goto hC 5 dX9_voteOf_84 (by decide) ?_
          refine vv_lv [2, 3, 1, 0] rfl ?_
          exact ih (k5 + 1) (f_X9_voteOf_x1 now tales p1 k5 l2_5) out (by omega) (ho.trans (by first | (simp only [f_X9_voteOf_L5]; done) | rfl | (simp only [f_X9_voteOf_L5]; rfl))) hk
        refine vv_if_eq hC 79 dX9_voteOf_53 (by decide) (fun c6 => ?_) (fun c6 => ?_)
        · have c6 : ¬ ((if k5 = p1 then false else (if f_X9_isThere now k5 = true then (if f_X9_of now p1 0 = 0 then true else (if f_X9_of now k5 0 = 0 then true else false)) else false)) = true) := bI_f c6
          refine vv_iload_n hC 3 dX9_voteOf_79 rfl rfl ?_
          refine vv_lv [1, 2, 3, 4, 0] rfl ?_
          have hz := hJ7
          try simp only [f_X9_voteOf_x1, if_neg c6] at hz
          first | exact hz | (simp only [f_X9_voteOf_x1, if_neg c6]; exact hz)
        · have c6 : (if k5 = p1 then false else (if f_X9_isThere now k5 = true then (if f_X9_of now p1 0 = 0 then true else (if f_X9_of now k5 0 = 0 then true else false)) else false)) = true := bI_t c6
          refine vv_iload_n hC 3 dX9_voteOf_56 rfl rfl ?_
          refine vv_bipush (v := (-9)) hC dX9_voteOf_57 (by decide) ?_
          refine vv_icmp_eq hC 75 dX9_voteOf_59 (by decide) (fun c8 => ?_) (fun c8 => ?_)
          · have c8 : l2_5 = (-9) := c8
            refine vv_iload_n hC 4 dX9_voteOf_75 rfl rfl ?_
            refine vv_goto hC 80 dX9_voteOf_76 (by decide) ?_
            refine vv_lv [1, 2, 3, 4, 0] rfl ?_
            have hz := hJ7
            try simp only [f_X9_voteOf_x1, if_pos c6, if_pos c8] at hz
            first | exact hz | (simp only [f_X9_voteOf_x1, if_pos c6, if_pos c8]; exact hz)
          · have c8 : ¬ (l2_5 = (-9)) := c8
            refine vv_aload_n hC 1 dX9_voteOf_62 rfl rfl ?_
            refine vv_iload_n hC 4 dX9_voteOf_63 rfl rfl ?_
            refine vv_callV hC dX9_voteOf_64 md_X9_setsWith lk_m_X9_231 lk_i_X9_setsWith lk_s_X9_setsWith h_m rfl (As := [.int (nI k5)]) (rest := []) (c_X9_setsWith g w0 B hB x_thrown x_houses x_people x_paths x_acts x_size x_at x_readHouses x_readPeople x_readPaths x_sights x_drawn tales (nI k5) h_m h_tales) rfl rfl (Nat.le_of_ble_eq_true rfl) ⟨by decide, by decide, by decide, by decide⟩ (fun r w9 hq => ?_)
            obtain ⟨rfl, rfl⟩ := hq
            show V g X 5 w0 0 0 67 [(4, .int (bI (if k5 = p1 then false else (if f_X9_isThere now k5 = true then (if f_X9_of now p1 0 = 0 then true else (if f_X9_of now k5 0 = 0 then true else false)) else false)))), (0, .ref (B 0)), (1, .int (nI p1)), (2, .int l2_5), (3, .int (nI k5))] [.int (f_X9_setsWith tales (nI k5))]
            refine vv_aload_n hC 1 dX9_voteOf_67 rfl rfl ?_
            refine vv_iload_n hC 3 dX9_voteOf_68 rfl rfl ?_
            refine vv_callV hC dX9_voteOf_69 md_X9_setsWith lk_m_X9_231 lk_i_X9_setsWith lk_s_X9_setsWith h_m rfl (As := [.int l2_5]) (rest := [.int (f_X9_setsWith tales (nI k5))]) (c_X9_setsWith g w0 B hB x_thrown x_houses x_people x_paths x_acts x_size x_at x_readHouses x_readPeople x_readPaths x_sights x_drawn tales l2_5 h_m h_tales) rfl rfl (Nat.le_of_ble_eq_true rfl) ⟨by decide, by decide, by decide, by decide⟩ (fun r w9 hq => ?_)
            obtain ⟨rfl, rfl⟩ := hq
            show V g X 5 w0 0 0 72 [(4, .int (bI (if k5 = p1 then false else (if f_X9_isThere now k5 = true then (if f_X9_of now p1 0 = 0 then true else (if f_X9_of now k5 0 = 0 then true else false)) else false)))), (0, .ref (B 0)), (1, .int (nI p1)), (2, .int l2_5), (3, .int (nI k5))] [.int (f_X9_setsWith tales l2_5), .int (f_X9_setsWith tales (nI k5))]
            refine vv_icmp_le hC 79 dX9_voteOf_72 (by decide) (fun c9 => ?_) (fun c9 => ?_)
            · have c9 : f_X9_setsWith tales (nI k5) ≤ f_X9_setsWith tales l2_5 := c9
              refine vv_iload_n hC 3 dX9_voteOf_79 rfl rfl ?_
              refine vv_lv [1, 2, 3, 4, 0] rfl ?_
              have hz := hJ7
              try simp only [f_X9_voteOf_x1, if_pos c6, if_neg c8, if_pos c9] at hz
              first | exact hz | (simp only [f_X9_voteOf_x1, if_pos c6, if_neg c8, if_pos c9]; exact hz)
            · have c9 : ¬ (f_X9_setsWith tales (nI k5) ≤ f_X9_setsWith tales l2_5) := c9
              refine vv_iload_n hC 4 dX9_voteOf_75 rfl rfl ?_
              refine vv_goto hC 80 dX9_voteOf_76 (by decide) ?_
              refine vv_lv [1, 2, 3, 4, 0] rfl ?_
              have hz := hJ7
              try simp only [f_X9_voteOf_x1, if_pos c6, if_neg c8, if_neg c9] at hz
              first | exact hz | (simp only [f_X9_voteOf_x1, if_pos c6, if_neg c8, if_neg c9]; exact hz)
      refine vv_icmp_eq hC 48 dX9_voteOf_15 (by decide) (fun c1 => ?_) (fun c1 => ?_)
      · have c1 : k5 = p1 := (nI_eq_ (a := k5) (b := p1) (by omega) (by omega)).mp c1
        refine vv_iconst (v := 0) hC dX9_voteOf_48 (by decide) ?_
        have hz := hJ2
        try simp only [if_pos c1] at hz
        first | exact hz | (simp only [if_pos c1]; exact hz)
      · have c1 : ¬ (k5 = p1) := fun z => c1 ((nI_eq_ (a := k5) (b := p1) (by omega) (by omega)).mpr z)
        refine vv_aload_n hC 0 dX9_voteOf_18 rfl rfl ?_
        refine vv_iload_n hC 3 dX9_voteOf_19 rfl rfl ?_
        refine vv_callV hC dX9_voteOf_20 md_X9_isThere lk_m_X9_87 lk_i_X9_isThere lk_s_X9_isThere h_m rfl (As := [.int (nI k5)]) (rest := []) (c_X9_isThere g w0 B hB x_thrown x_houses x_people x_paths x_acts x_size x_at x_readHouses x_readPeople x_readPaths x_sights x_drawn now k5 (by omega) h_m h_now) rfl rfl (Nat.le_of_ble_eq_true rfl) ⟨by decide, by decide, by decide, by decide⟩ (fun r w9 hq => ?_)
        obtain ⟨rfl, rfl⟩ := hq
        show V g X 5 w0 0 0 23 [(0, .ref (B 0)), (1, .int (nI p1)), (2, .int l2_5), (3, .int (nI k5))] [.int (bI (f_X9_isThere now k5))]
        refine vv_if_eq hC 48 dX9_voteOf_23 (by decide) (fun c3 => ?_) (fun c3 => ?_)
        · have c3 : ¬ (f_X9_isThere now k5 = true) := bI_f c3
          refine vv_iconst (v := 0) hC dX9_voteOf_48 (by decide) ?_
          have hz := hJ2
          try simp only [if_neg c1, if_neg c3] at hz
          first | exact hz | (simp only [if_neg c1, if_neg c3]; exact hz)
        · have c3 : f_X9_isThere now k5 = true := bI_t c3
          refine vv_aload_n hC 0 dX9_voteOf_26 rfl rfl ?_
          refine vv_iload_n hC 1 dX9_voteOf_27 rfl rfl ?_
          refine vv_iconst (v := 0) hC dX9_voteOf_28 (by decide) ?_
          refine vv_callV hC dX9_voteOf_29 md_X9_of lk_m_X9_83 lk_i_X9_of lk_s_X9_of h_m rfl (As := [.int (nI p1), .int 0]) (rest := []) (c_X9_of g w0 B hB x_thrown x_houses x_people x_paths x_acts x_size x_at x_readHouses x_readPeople x_readPaths x_sights x_drawn now p1 0 (by omega) (by omega) h_m h_now) rfl rfl (Nat.le_of_ble_eq_true rfl) ⟨by decide, by decide, by decide, by decide⟩ (fun r w9 hq => ?_)
          obtain ⟨rfl, rfl⟩ := hq
          show V g X 5 w0 0 0 32 [(0, .ref (B 0)), (1, .int (nI p1)), (2, .int l2_5), (3, .int (nI k5))] [.int (f_X9_of now p1 0)]
          refine vv_if_eq hC 44 dX9_voteOf_32 (by decide) (fun c4 => ?_) (fun c4 => ?_)
          · have c4 : f_X9_of now p1 0 = 0 := c4
            refine vv_iconst (v := 1) hC dX9_voteOf_44 (by decide) ?_
            refine vv_goto hC 49 dX9_voteOf_45 (by decide) ?_
            have hz := hJ2
            try simp only [if_neg c1, if_pos c3, if_pos c4] at hz
            first | exact hz | (simp only [if_neg c1, if_pos c3, if_pos c4]; exact hz)
          · have c4 : ¬ (f_X9_of now p1 0 = 0) := c4
            refine vv_aload_n hC 0 dX9_voteOf_35 rfl rfl ?_
            refine vv_iload_n hC 3 dX9_voteOf_36 rfl rfl ?_
            refine vv_iconst (v := 0) hC dX9_voteOf_37 (by decide) ?_
            refine vv_callV hC dX9_voteOf_38 md_X9_of lk_m_X9_83 lk_i_X9_of lk_s_X9_of h_m rfl (As := [.int (nI k5), .int 0]) (rest := []) (c_X9_of g w0 B hB x_thrown x_houses x_people x_paths x_acts x_size x_at x_readHouses x_readPeople x_readPaths x_sights x_drawn now k5 0 (by omega) (by omega) h_m h_now) rfl rfl (Nat.le_of_ble_eq_true rfl) ⟨by decide, by decide, by decide, by decide⟩ (fun r w9 hq => ?_)
            obtain ⟨rfl, rfl⟩ := hq
            show V g X 5 w0 0 0 41 [(0, .ref (B 0)), (1, .int (nI p1)), (2, .int l2_5), (3, .int (nI k5))] [.int (f_X9_of now k5 0)]
            refine vv_if_ne hC 48 dX9_voteOf_41 (by decide) (fun c5 => ?_) (fun c5 => ?_)
            · have c5 : ¬ (f_X9_of now k5 0 = 0) := c5
              refine vv_iconst (v := 0) hC dX9_voteOf_48 (by decide) ?_
              have hz := hJ2
              try simp only [if_neg c1, if_pos c3, if_neg c4, if_neg c5] at hz
              first | exact hz | (simp only [if_neg c1, if_pos c3, if_neg c4, if_neg c5]; exact hz)
            · have c5 : f_X9_of now k5 0 = 0 := c5
              refine vv_iconst (v := 1) hC dX9_voteOf_44 (by decide) ?_
              refine vv_goto hC 49 dX9_voteOf_45 (by decide) ?_
              have hz := hJ2
              try simp only [if_neg c1, if_pos c3, if_neg c4, if_pos c5] at hz
              first | exact hz | (simp only [if_neg c1, if_pos c3, if_neg c4, if_pos c5]; exact hz)
  refine vv_lv [2, 3, 1, 0] rfl ?_
  refine hL10 x_people 0 (-9) (f_X9_voteOf_L5 now tales p1 x_people 0 (-9)) (by omega) rfl ?_
  refine vv_iload_n hC 2 dX9_voteOf_87 rfl rfl ?_
  have hf : (f_X9_voteOf x_people now tales p1) = (f_X9_voteOf_L5 now tales p1 x_people 0 (-9)) := by first | (simp only [f_X9_voteOf]; done) | rfl | (simp only [f_X9_voteOf]; rfl)
  refine vv_iret hC hR rfl dX9_voteOf_88 (by omega) (by omega) ?_
  rw [hf]
  exact ⟨rfl, rfl⟩
def f_X9_vote (x_houses : Nat) (x_people : Nat) (x_sights : Nat) (now : Nat → Int32) (tales : Nat → Int64) (sight : Nat → Int32) (went : Nat → Int32) (path : Nat → Int32) (home : Nat → Int32) (p1 : Int32) : Int32 × Int32 × (Nat → Int64) × (Nat → Int32) := (if f_X9_noOne x_people p1 = true then ((-1), 0, tales, went) else (if f_X9_isThere now (tn p1) = true then (f_X9_voteOf x_people now ((f_X9_layTales x_houses x_people x_sights now tales sight went path home).1) (tn p1), 0, (f_X9_layTales x_houses x_people x_sights now tales sight went path home).1, (f_X9_layTales x_houses x_people x_sights now tales sight went path home).2) else ((-3), 0, tales, went)))
set_option maxHeartbeats 4000000 in
set_option maxRecDepth 100000 in
theorem c_X9_vote (g : GT) (w0 : Wd) (B : Nat → Nat) (hB : ∀ i j, i < 60 → j < 60 → B i = B j → i = j) (x_thrown : Int32) (x_houses : Nat) (x_people : Nat) (x_paths : Nat) (x_acts : Nat) (x_size : Nat) (x_at : Nat) (x_readHouses : Nat) (x_readPeople : Nat) (x_readPaths : Nat) (x_sights : Nat) (x_drawn : Int64) (now : Nat → Int32) (tales : Nat → Int64) (sight : Nat → Int32) (went : Nat → Int32) (path : Nat → Int32) (home : Nat → Int32) (p1 : Int32) (hxp : x_people ≤ 6) (hxh : x_houses ≤ 4) (hom : ∀ q, q < 6 → home q = nI (tn (home q)) ∧ tn (home q) < 4) (hsi : x_sights ≤ 6) (hendW : ∀ (set moon : Int32) (w : Nat → Int32), f_X9_waysOf_L26_E x_houses x_people x_sights sight path home now set moon fuelW 0 true (f_X9_waysOf_L2 6 0 w) = true) (h_m : w0 (B 0) = some (.inr (9, cM B (x_thrown, x_houses, x_people, x_paths, x_acts, x_size, x_at, x_readHouses, x_readPeople, x_readPaths, x_sights, x_drawn)))) (h_now : w0 (B 7) = some (.inl (g.2.2.1 0, 43, .inl now))) (h_tales : w0 (B 25) = some (.inl (g.2.2.1 1, 64, .inr (.inl tales)))) (h_sight : w0 (B 22) = some (.inl (g.2.2.1 0, 24, .inl sight))) (h_went : w0 (B 24) = some (.inl (g.2.2.1 0, 6, .inl went))) (h_path : w0 (B 4) = some (.inl (g.2.2.1 0, 16, .inl path))) (h_home : w0 (B 5) = some (.inl (g.2.2.1 0, 6, .inl home))) : CT g yX9_vote cX9_vote 2 (some .int) 5 122 0 0 w0 [.ref (B 0), .int p1] (fun r w2 => r = some (.int ((f_X9_vote x_houses x_people x_sights now tales sight went path home p1).1)) ∧ w2 (B 0) = some (.inr (9, cM B ((f_X9_vote x_houses x_people x_sights now tales sight went path home p1).2.1, x_houses, x_people, x_paths, x_acts, x_size, x_at, x_readHouses, x_readPeople, x_readPaths, x_sights, x_drawn))) ∧ w2 (B 25) = some (.inl (g.2.2.1 1, 64, .inr (.inl ((f_X9_vote x_houses x_people x_sights now tales sight went path home p1).2.2.1)))) ∧ w2 (B 24) = some (.inl (g.2.2.1 0, 6, .inl ((f_X9_vote x_houses x_people x_sights now tales sight went path home p1).2.2.2))) ∧ wE (fun q => q = (B 0) ∨ q = (B 25) ∨ q = (B 24)) w0 w2) := by
  refine CT.of (own := RX9) (by decide +kernel) rfl (Nat.le_of_ble_eq_true rfl) (fun X hC hR hI => ?_)
  show V g X 2 w0 0 0 0 [(0, .ref (B 0)), (1, .int p1)] []
  have hE : wE (fun q => q = (B 0) ∨ q = (B 25) ∨ q = (B 24)) w0 w0 := wE.refl
  refine vv_aload_n hC 0 dX9_vote_0 rfl rfl ?_
  refine vv_iconst (v := 0) hC dX9_vote_1 (by decide) ?_
  refine vv_put hC fp_X9_69 dX9_vote_2 h_m rfl rfl (Nat.le_of_ble_eq_true rfl) (fun w1 t1 hs => ?_)
  have t1 : w1 (B 0) = some (.inr (9, cM B (0, x_houses, x_people, x_paths, x_acts, x_size, x_at, x_readHouses, x_readPeople, x_readPaths, x_sights, x_drawn))) := t1.trans (congrArg (fun z => some (Sum.inr (9, z))) (eM_thrown _ _ _ _ _ _ _ _ _ _ _ _ _ _))
  have h_now := hs _ _ (fw_ao h_now h_m) h_now
  have h_tales := hs _ _ (fw_ao h_tales h_m) h_tales
  have h_sight := hs _ _ (fw_ao h_sight h_m) h_sight
  have h_went := hs _ _ (fw_ao h_went h_m) h_went
  have h_path := hs _ _ (fw_ao h_path h_m) h_path
  have h_home := hs _ _ (fw_ao h_home h_m) h_home
  have h_m := t1
  have hE := hE.trans (hs.mono (fun _ z => (Or.inl z)))
  refine vv_aload_n hC 0 dX9_vote_5 rfl rfl ?_
  refine vv_iload_n hC 1 dX9_vote_6 rfl rfl ?_
  refine vv_callV hC dX9_vote_7 md_X9_noOne lk_m_X9_168 lk_i_X9_noOne lk_s_X9_noOne h_m rfl (As := [.int p1]) (rest := []) (c_X9_noOne g w1 B hB 0 x_houses x_people x_paths x_acts x_size x_at x_readHouses x_readPeople x_readPaths x_sights x_drawn p1 h_m) rfl rfl (Nat.le_of_ble_eq_true rfl) ⟨by decide, by decide, by decide, by decide⟩ (fun r w9 hq => ?_)
  obtain ⟨rfl, rfl⟩ := hq
  show V g X 2 w1 0 0 10 [(0, .ref (B 0)), (1, .int p1)] [.int (bI (f_X9_noOne x_people p1))]
  refine vv_if_eq hC 15 dX9_vote_10 (by decide) (fun c2 => ?_) (fun c2 => ?_)
  · have c2 : ¬ (f_X9_noOne x_people p1 = true) := bI_f c2
    have bc2 := noOne_b (by omega) c2
    refine vv_aload_n hC 0 dX9_vote_15 rfl rfl ?_
    refine vv_iload_n hC 1 dX9_vote_16 rfl rfl ?_
    refine vv_topi (nI (tn p1)) (noOne_e (by omega) c2) ?_
    refine vv_callV hC dX9_vote_17 md_X9_isThere lk_m_X9_87 lk_i_X9_isThere lk_s_X9_isThere h_m rfl (As := [.int (nI (tn p1))]) (rest := []) (c_X9_isThere g w1 B hB 0 x_houses x_people x_paths x_acts x_size x_at x_readHouses x_readPeople x_readPaths x_sights x_drawn now (tn p1) (by omega) h_m h_now) rfl rfl (Nat.le_of_ble_eq_true rfl) ⟨by decide, by decide, by decide, by decide⟩ (fun r w9 hq => ?_)
    obtain ⟨rfl, rfl⟩ := hq
    show V g X 2 w1 0 0 20 [(0, .ref (B 0)), (1, .int p1)] [.int (bI (f_X9_isThere now (tn p1)))]
    refine vv_if_ne hC 26 dX9_vote_20 (by decide) (fun c3 => ?_) (fun c3 => ?_)
    · have c3 : f_X9_isThere now (tn p1) = true := bI_t c3
      refine vv_aload_n hC 0 dX9_vote_26 rfl rfl ?_
      refine vv_callV hC dX9_vote_27 md_X9_layTales lk_m_X9_228 lk_i_X9_layTales lk_s_X9_layTales h_m rfl (As := []) (rest := []) (c_X9_layTales g w1 B hB 0 x_houses x_people x_paths x_acts x_size x_at x_readHouses x_readPeople x_readPaths x_sights x_drawn now tales sight went path home (by omega) (by omega) (hom) (by omega) (hendW) h_m h_now h_tales h_sight h_went h_path h_home) rfl rfl (Nat.le_of_ble_eq_true rfl) ⟨by decide, by decide, by decide, by decide⟩ (fun r w9 hq => ?_)
      obtain ⟨rfl, t1, t2, hs⟩ := hq
      obtain ⟨w4, rfl⟩ : ∃ z, z = w9 := ⟨_, rfl⟩
      have h_m := hs _ _ (fun z => z.elim (fw_oa h_m h_tales) (fw_oa h_m h_went)) h_m
      have h_now := hs _ _ (fun z => z.elim (fw_inj hB (by decide) (by decide) (by decide)) (fw_inj hB (by decide) (by decide) (by decide))) h_now
      have h_sight := hs _ _ (fun z => z.elim (fw_inj hB (by decide) (by decide) (by decide)) (fw_inj hB (by decide) (by decide) (by decide))) h_sight
      have h_path := hs _ _ (fun z => z.elim (fw_inj hB (by decide) (by decide) (by decide)) (fw_inj hB (by decide) (by decide) (by decide))) h_path
      have h_home := hs _ _ (fun z => z.elim (fw_inj hB (by decide) (by decide) (by decide)) (fw_inj hB (by decide) (by decide) (by decide))) h_home
      have h_tales := t1
      have h_went := t2
      have hE := hE.trans (hs.mono (fun _ z => z.elim (fun z => (Or.inr (Or.inl z))) (fun z => (Or.inr (Or.inr z)))))
      show V g X 2 w4 0 0 30 [(0, .ref (B 0)), (1, .int p1)] []
      refine vv_aload_n hC 0 dX9_vote_30 rfl rfl ?_
      refine vv_iload_n hC 1 dX9_vote_31 rfl rfl ?_
      refine vv_topi (nI (tn p1)) (noOne_e (by omega) c2) ?_
      refine vv_callV hC dX9_vote_32 md_X9_voteOf lk_m_X9_248 lk_i_X9_voteOf lk_s_X9_voteOf h_m rfl (As := [.int (nI (tn p1))]) (rest := []) (c_X9_voteOf g w4 B hB 0 x_houses x_people x_paths x_acts x_size x_at x_readHouses x_readPeople x_readPaths x_sights x_drawn now ((f_X9_layTales x_houses x_people x_sights now tales sight went path home).1) (tn p1) (by omega) (by omega) h_m h_now h_tales) rfl rfl (Nat.le_of_ble_eq_true rfl) ⟨by decide, by decide, by decide, by decide⟩ (fun r w9 hq => ?_)
      obtain ⟨rfl, rfl⟩ := hq
      show V g X 2 w4 0 0 35 [(0, .ref (B 0)), (1, .int p1)] [.int (f_X9_voteOf x_people now ((f_X9_layTales x_houses x_people x_sights now tales sight went path home).1) (tn p1))]
      have hf : (f_X9_vote x_houses x_people x_sights now tales sight went path home p1) = (f_X9_voteOf x_people now ((f_X9_layTales x_houses x_people x_sights now tales sight went path home).1) (tn p1), 0, (f_X9_layTales x_houses x_people x_sights now tales sight went path home).1, (f_X9_layTales x_houses x_people x_sights now tales sight went path home).2) := by first | (simp only [f_X9_vote, if_neg c2, if_pos c3]; done) | rfl | (simp only [f_X9_vote, if_neg c2, if_pos c3]; rfl)
      refine vv_iret hC hR rfl dX9_vote_35 (by omega) (by omega) ?_
      rw [hf]
      try dsimp only
      exact ⟨rfl, h_m, h_tales, h_went, hE⟩
    · have c3 : ¬ (f_X9_isThere now (tn p1) = true) := bI_f c3
      refine vv_bipush (v := (-3)) hC dX9_vote_23 (by decide) ?_
      have hf : (f_X9_vote x_houses x_people x_sights now tales sight went path home p1) = ((-3), 0, tales, went) := by first | (simp only [f_X9_vote, if_neg c2, if_neg c3]; done) | rfl | (simp only [f_X9_vote, if_neg c2, if_neg c3]; rfl)
      refine vv_iret hC hR rfl dX9_vote_25 (by omega) (by omega) ?_
      rw [hf]
      try dsimp only
      exact ⟨rfl, h_m, h_tales, h_went, hE⟩
  · have c2 : f_X9_noOne x_people p1 = true := bI_t c2
    refine vv_iconst (v := (-1)) hC dX9_vote_13 (by decide) ?_
    have hf : (f_X9_vote x_houses x_people x_sights now tales sight went path home p1) = ((-1), 0, tales, went) := by first | (simp only [f_X9_vote, if_pos c2]; done) | rfl | (simp only [f_X9_vote, if_pos c2]; rfl)
    refine vv_iret hC hR rfl dX9_vote_14 (by omega) (by omega) ?_
    rw [hf]
    try dsimp only
    exact ⟨rfl, h_m, h_tales, h_went, hE⟩
def f_X9_locked_x1 (x_houses : Nat) (x_people : Nat) (x_sights : Nat) (now : Nat → Int32) (tales : Nat → Int64) (sight : Nat → Int32) (went : Nat → Int32) (path : Nat → Int32) (home : Nat → Int32) (k19 : Nat) (k35 : Nat) (l4_35 : Bool) : Bool := (if l4_35 = true then (if f_X9_has (f_X9_suspects x_people ((f_X9_layTales x_houses x_people x_sights now tales sight went path home).1)) (nI k35) = true then (if f_X9_has (nI k19) (home k35) = true then true else (if (f_X9_goesTo x_houses now home path k35 &&& (nI k19 ^^^ (-1))) = 0 then true else false)) else true) else false)
def f_X9_locked_L35 (x_houses : Nat) (x_people : Nat) (x_sights : Nat) (now : Nat → Int32) (tales : Nat → Int64) (sight : Nat → Int32) (went : Nat → Int32) (path : Nat → Int32) (home : Nat → Int32) (k19 : Nat) : Nat → Nat → Bool → Bool
  | 0, k35, l4_35 => l4_35
  | r35 + 1, k35, l4_35 => f_X9_locked_L35 x_houses x_people x_sights now tales sight went path home k19 r35 (k35 + 1) (f_X9_locked_x1 x_houses x_people x_sights now tales sight went path home k19 k35 l4_35)
def f_X9_locked_L19 (x_houses : Nat) (x_people : Nat) (x_sights : Nat) (now : Nat → Int32) (tales : Nat → Int64) (sight : Nat → Int32) (went : Nat → Int32) (path : Nat → Int32) (home : Nat → Int32) : Nat → Nat → Int32 → Int32
  | 0, k19, l2_19 => l2_19
  | r19 + 1, k19, l2_19 => f_X9_locked_L19 x_houses x_people x_sights now tales sight went path home r19 (k19 + 1) (if (f_X9_locked_L35 x_houses x_people x_sights now tales sight went path home k19 x_people 0 true) = true then (if l2_19 = (-9) then nI k19 else (if f_X9_bits l2_19 ≤ f_X9_bits (nI k19) then l2_19 else nI k19)) else l2_19)
def f_X9_locked (x_houses : Nat) (x_people : Nat) (x_sights : Nat) (now : Nat → Int32) (tales : Nat → Int64) (sight : Nat → Int32) (went : Nat → Int32) (path : Nat → Int32) (home : Nat → Int32) : Int32 × Int32 × (Nat → Int64) × (Nat → Int32) := ((f_X9_locked_L19 x_houses x_people x_sights now tales sight went path home (pw x_houses) 0 (-9)), 0, (f_X9_layTales x_houses x_people x_sights now tales sight went path home).1, (f_X9_layTales x_houses x_people x_sights now tales sight went path home).2)
set_option maxHeartbeats 4000000 in
set_option maxRecDepth 100000 in
theorem c_X9_locked (g : GT) (w0 : Wd) (B : Nat → Nat) (hB : ∀ i j, i < 60 → j < 60 → B i = B j → i = j) (x_thrown : Int32) (x_houses : Nat) (x_people : Nat) (x_paths : Nat) (x_acts : Nat) (x_size : Nat) (x_at : Nat) (x_readHouses : Nat) (x_readPeople : Nat) (x_readPaths : Nat) (x_sights : Nat) (x_drawn : Int64) (now : Nat → Int32) (tales : Nat → Int64) (sight : Nat → Int32) (went : Nat → Int32) (path : Nat → Int32) (home : Nat → Int32) (hxp : x_people ≤ 6) (hxh : x_houses ≤ 4) (hom : ∀ q, q < 6 → home q = nI (tn (home q)) ∧ tn (home q) < 4) (hsi : x_sights ≤ 6) (hendW : ∀ (set moon : Int32) (w : Nat → Int32), f_X9_waysOf_L26_E x_houses x_people x_sights sight path home now set moon fuelW 0 true (f_X9_waysOf_L2 6 0 w) = true) (h_m : w0 (B 0) = some (.inr (9, cM B (x_thrown, x_houses, x_people, x_paths, x_acts, x_size, x_at, x_readHouses, x_readPeople, x_readPaths, x_sights, x_drawn)))) (h_now : w0 (B 7) = some (.inl (g.2.2.1 0, 43, .inl now))) (h_tales : w0 (B 25) = some (.inl (g.2.2.1 1, 64, .inr (.inl tales)))) (h_sight : w0 (B 22) = some (.inl (g.2.2.1 0, 24, .inl sight))) (h_went : w0 (B 24) = some (.inl (g.2.2.1 0, 6, .inl went))) (h_path : w0 (B 4) = some (.inl (g.2.2.1 0, 16, .inl path))) (h_home : w0 (B 5) = some (.inl (g.2.2.1 0, 6, .inl home))) : CT g yX9_locked cX9_locked 6 (some .int) 5 122 0 0 w0 [.ref (B 0)] (fun r w2 => r = some (.int ((f_X9_locked x_houses x_people x_sights now tales sight went path home).1)) ∧ w2 (B 0) = some (.inr (9, cM B ((f_X9_locked x_houses x_people x_sights now tales sight went path home).2.1, x_houses, x_people, x_paths, x_acts, x_size, x_at, x_readHouses, x_readPeople, x_readPaths, x_sights, x_drawn))) ∧ w2 (B 25) = some (.inl (g.2.2.1 1, 64, .inr (.inl ((f_X9_locked x_houses x_people x_sights now tales sight went path home).2.2.1)))) ∧ w2 (B 24) = some (.inl (g.2.2.1 0, 6, .inl ((f_X9_locked x_houses x_people x_sights now tales sight went path home).2.2.2))) ∧ wE (fun q => q = (B 0) ∨ q = (B 25) ∨ q = (B 24)) w0 w2) := by
  refine CT.of (own := RX9) (by decide +kernel) rfl (Nat.le_of_ble_eq_true rfl) (fun X hC hR hI => ?_)
  show V g X 6 w0 0 0 0 [(0, .ref (B 0))] []
  have hE : wE (fun q => q = (B 0) ∨ q = (B 25) ∨ q = (B 24)) w0 w0 := wE.refl
  refine vv_aload_n hC 0 dX9_locked_0 rfl rfl ?_
  refine vv_iconst (v := 0) hC dX9_locked_1 (by decide) ?_
  refine vv_put hC fp_X9_69 dX9_locked_2 h_m rfl rfl (Nat.le_of_ble_eq_true rfl) (fun w1 t1 hs => ?_)
  have t1 : w1 (B 0) = some (.inr (9, cM B (0, x_houses, x_people, x_paths, x_acts, x_size, x_at, x_readHouses, x_readPeople, x_readPaths, x_sights, x_drawn))) := t1.trans (congrArg (fun z => some (Sum.inr (9, z))) (eM_thrown _ _ _ _ _ _ _ _ _ _ _ _ _ _))
  have h_now := hs _ _ (fw_ao h_now h_m) h_now
  have h_tales := hs _ _ (fw_ao h_tales h_m) h_tales
  have h_sight := hs _ _ (fw_ao h_sight h_m) h_sight
  have h_went := hs _ _ (fw_ao h_went h_m) h_went
  have h_path := hs _ _ (fw_ao h_path h_m) h_path
  have h_home := hs _ _ (fw_ao h_home h_m) h_home
  have h_m := t1
  have hE := hE.trans (hs.mono (fun _ z => (Or.inl z)))
  refine vv_aload_n hC 0 dX9_locked_5 rfl rfl ?_
  refine vv_callV hC dX9_locked_6 md_X9_layTales lk_m_X9_228 lk_i_X9_layTales lk_s_X9_layTales h_m rfl (As := []) (rest := []) (c_X9_layTales g w1 B hB 0 x_houses x_people x_paths x_acts x_size x_at x_readHouses x_readPeople x_readPaths x_sights x_drawn now tales sight went path home (by omega) (by omega) (hom) (by omega) (hendW) h_m h_now h_tales h_sight h_went h_path h_home) rfl rfl (Nat.le_of_ble_eq_true rfl) ⟨by decide, by decide, by decide, by decide⟩ (fun r w9 hq => ?_)
  obtain ⟨rfl, t1, t2, hs⟩ := hq
  obtain ⟨w2, rfl⟩ : ∃ z, z = w9 := ⟨_, rfl⟩
  have h_m := hs _ _ (fun z => z.elim (fw_oa h_m h_tales) (fw_oa h_m h_went)) h_m
  have h_now := hs _ _ (fun z => z.elim (fw_inj hB (by decide) (by decide) (by decide)) (fw_inj hB (by decide) (by decide) (by decide))) h_now
  have h_sight := hs _ _ (fun z => z.elim (fw_inj hB (by decide) (by decide) (by decide)) (fw_inj hB (by decide) (by decide) (by decide))) h_sight
  have h_path := hs _ _ (fun z => z.elim (fw_inj hB (by decide) (by decide) (by decide)) (fw_inj hB (by decide) (by decide) (by decide))) h_path
  have h_home := hs _ _ (fun z => z.elim (fw_inj hB (by decide) (by decide) (by decide)) (fw_inj hB (by decide) (by decide) (by decide))) h_home
  have h_tales := t1
  have h_went := t2
  have hE := hE.trans (hs.mono (fun _ z => z.elim (fun z => (Or.inr (Or.inl z))) (fun z => (Or.inr (Or.inr z)))))
  show V g X 6 w2 0 0 9 [(0, .ref (B 0))] []
  refine vv_aload_n hC 0 dX9_locked_9 rfl rfl ?_
  refine vv_callV hC dX9_locked_10 md_X9_suspects lk_m_X9_234 lk_i_X9_suspects lk_s_X9_suspects h_m rfl (As := []) (rest := []) (c_X9_suspects g w2 B hB 0 x_houses x_people x_paths x_acts x_size x_at x_readHouses x_readPeople x_readPaths x_sights x_drawn ((f_X9_layTales x_houses x_people x_sights now tales sight went path home).1) (by omega) h_m h_tales) rfl rfl (Nat.le_of_ble_eq_true rfl) ⟨by decide, by decide, by decide, by decide⟩ (fun r w9 hq => ?_)
  obtain ⟨rfl, rfl⟩ := hq
  show V g X 6 w2 0 0 13 [(0, .ref (B 0))] [.int (f_X9_suspects x_people ((f_X9_layTales x_houses x_people x_sights now tales sight went path home).1))]
  refine vv_istore_n (lv2 := [(1, .int (f_X9_suspects x_people ((f_X9_layTales x_houses x_people x_sights now tales sight went path home).1))), (0, .ref (B 0))]) hC dX9_locked_13 rfl (by decide) rfl ?_
  refine vv_bipush (v := (-9)) hC dX9_locked_14 (by decide) ?_
  refine vv_istore_n (lv2 := [(2, .int (-9)), (1, .int (f_X9_suspects x_people ((f_X9_layTales x_houses x_people x_sights now tales sight went path home).1))), (0, .ref (B 0))]) hC dX9_locked_16 rfl (by decide) rfl ?_
  refine vv_iconst (v := 0) hC dX9_locked_17 (by decide) ?_
  refine vv_istore_n (lv2 := [(3, .int 0), (2, .int (-9)), (1, .int (f_X9_suspects x_people ((f_X9_layTales x_houses x_people x_sights now tales sight went path home).1))), (0, .ref (B 0))]) hC dX9_locked_18 rfl (by decide) rfl ?_
  have hL13 : ∀ (r19 k19 : Nat) (l2_19 : Int32) (out : Int32), k19 + r19 = pw x_houses → out = f_X9_locked_L19 x_houses x_people x_sights now tales sight went path home r19 k19 l2_19 → V g X 6 w2 0 0 132 [(0, .ref (B 0)), (1, .int (f_X9_suspects x_people ((f_X9_layTales x_houses x_people x_sights now tales sight went path home).1))), (2, .int out)] [] → V g X 6 w2 0 0 19 [(0, .ref (B 0)), (1, .int (f_X9_suspects x_people ((f_X9_layTales x_houses x_people x_sights now tales sight went path home).1))), (2, .int l2_19), (3, .int (nI k19))] [] := by
    intro r19
    induction r19 with
    | zero =>
      intro k19 l2_19 out hb ho hk
      have hpw := pw_le hxh
      refine vv_iload_n hC 3 dX9_locked_19 rfl rfl ?_
      refine vv_iconst (v := 1) hC dX9_locked_20 (by decide) ?_
      refine vv_aload_n hC 0 dX9_locked_21 rfl rfl ?_
      refine vv_get (v := .int (nI x_houses)) hC fl_X9_73 dX9_locked_22 h_m rfl ?_
      refine vv_ishl hC dX9_locked_25 ?_
      refine vv_topi (nI (pw x_houses)) (pw_e hxh) ?_
      refine vv_icmp_ge hC 132 dX9_locked_26 (by decide) (fun c => ?_) (fun c => False.elim (c ((nI_le_ (a := pw x_houses) (b := k19) (by omega) (by omega)).mpr (by omega))))
      refine vv_lv [0, 1, 2] rfl ?_
      have ho := ho.trans (by first | (simp only [f_X9_locked_L19]; done) | rfl | (simp only [f_X9_locked_L19]; rfl) : _ = l2_19)
      subst ho
      exact hk
    | succ r19 ih =>
      intro k19 l2_19 out hb ho hk
      have hpw := pw_le hxh
      refine vv_iload_n hC 3 dX9_locked_19 rfl rfl ?_
      refine vv_iconst (v := 1) hC dX9_locked_20 (by decide) ?_
      refine vv_aload_n hC 0 dX9_locked_21 rfl rfl ?_
      refine vv_get (v := .int (nI x_houses)) hC fl_X9_73 dX9_locked_22 h_m rfl ?_
      refine vv_ishl hC dX9_locked_25 ?_
      refine vv_topi (nI (pw x_houses)) (pw_e hxh) ?_
      refine vv_icmp_ge hC 132 dX9_locked_26 (by decide) (fun c => absurd ((nI_le_ (a := pw x_houses) (b := k19) (by omega) (by omega)).mp c) (by first | omega | decide)) (fun c => ?_)
      refine vv_iconst (v := 1) hC dX9_locked_29 (by decide) ?_
      refine vv_istore (lv2 := [(4, .int 1), (0, .ref (B 0)), (1, .int (f_X9_suspects x_people ((f_X9_layTales x_houses x_people x_sights now tales sight went path home).1))), (2, .int l2_19), (3, .int (nI k19))]) hC dX9_locked_30 (by decide) rfl ?_
      refine vv_iconst (v := 0) hC dX9_locked_32 (by decide) ?_
      refine vv_istore (lv2 := [(5, .int 0), (4, .int 1), (0, .ref (B 0)), (1, .int (f_X9_suspects x_people ((f_X9_layTales x_houses x_people x_sights now tales sight went path home).1))), (2, .int l2_19), (3, .int (nI k19))]) hC dX9_locked_33 (by decide) rfl ?_
      have hL8 : ∀ (r35 k35 : Nat) (l4_35 : Bool) (out : Bool), k35 + r35 = x_people → out = f_X9_locked_L35 x_houses x_people x_sights now tales sight went path home k19 r35 k35 l4_35 → V g X 6 w2 0 0 98 [(0, .ref (B 0)), (1, .int (f_X9_suspects x_people ((f_X9_layTales x_houses x_people x_sights now tales sight went path home).1))), (2, .int l2_19), (3, .int (nI k19)), (4, .int (bI out))] [] → V g X 6 w2 0 0 35 [(0, .ref (B 0)), (1, .int (f_X9_suspects x_people ((f_X9_layTales x_houses x_people x_sights now tales sight went path home).1))), (2, .int l2_19), (3, .int (nI k19)), (4, .int (bI l4_35)), (5, .int (nI k35))] [] := by
        intro r35
        induction r35 with
        | zero =>
          intro k35 l4_35 out hb ho hk
          refine vv_iload hC 5 dX9_locked_35 rfl ?_
          refine vv_aload_n hC 0 dX9_locked_37 rfl rfl ?_
          refine vv_get (v := .int (nI x_people)) hC fl_X9_80 dX9_locked_38 h_m rfl ?_
          refine vv_icmp_ge hC 98 dX9_locked_41 (by decide) (fun c => ?_) (fun c => False.elim (c ((nI_le_ (a := x_people) (b := k35) (by omega) (by omega)).mpr (by omega))))
          refine vv_lv [0, 1, 2, 3, 4] rfl ?_
          have ho := ho.trans (by first | (simp only [f_X9_locked_L35]; done) | rfl | (simp only [f_X9_locked_L35]; rfl) : _ = l4_35)
          subst ho
          exact hk
        | succ r35 ih =>
          intro k35 l4_35 out hb ho hk
          refine vv_iload hC 5 dX9_locked_35 rfl ?_
          refine vv_aload_n hC 0 dX9_locked_37 rfl rfl ?_
          refine vv_get (v := .int (nI x_people)) hC fl_X9_80 dX9_locked_38 h_m rfl ?_
          refine vv_icmp_ge hC 98 dX9_locked_41 (by decide) (fun c => absurd ((nI_le_ (a := x_people) (b := k35) (by omega) (by omega)).mp c) (by first | omega | decide)) (fun c => ?_)
          refine vv_iload hC 4 dX9_locked_44 rfl ?_
          have hJ4 : V g X 6 w2 0 0 90 [(0, .ref (B 0)), (1, .int (f_X9_suspects x_people ((f_X9_layTales x_houses x_people x_sights now tales sight went path home).1))), (2, .int l2_19), (3, .int (nI k19)), (4, .int (bI l4_35)), (5, .int (nI k35))] [.int (bI (f_X9_locked_x1 x_houses x_people x_sights now tales sight went path home k19 k35 l4_35))] := by
            refine vv_istore (lv2 := [(4, .int (bI (f_X9_locked_x1 x_houses x_people x_sights now tales sight went path home k19 k35 l4_35))), (0, .ref (B 0)), (1, .int (f_X9_suspects x_people ((f_X9_layTales x_houses x_people x_sights now tales sight went path home).1))), (2, .int l2_19), (3, .int (nI k19)), (5, .int (nI k35))]) hC dX9_locked_90 (by decide) rfl ?_
            refine vv_iinc (lv2 := [(5, .int (nI (k35 + 1))), (4, .int (bI (f_X9_locked_x1 x_houses x_people x_sights now tales sight went path home k19 k35 l4_35))), (0, .ref (B 0)), (1, .int (f_X9_suspects x_people ((f_X9_layTales x_houses x_people x_sights now tales sight went path home).1))), (2, .int l2_19), (3, .int (nI k19))]) hC 5 dX9_locked_92 rfl (nI_add k35 1) (by decide) rfl ?_
            refine vv_goto hC 35 dX9_locked_95 (by decide) ?_
            refine vv_lv [2, 3, 4, 5, 1, 0] rfl ?_
            exact ih (k35 + 1) (f_X9_locked_x1 x_houses x_people x_sights now tales sight went path home k19 k35 l4_35) out (by omega) (ho.trans (by first | (simp only [f_X9_locked_L35]; done) | rfl | (simp only [f_X9_locked_L35]; rfl))) hk
          refine vv_if_eq hC 89 dX9_locked_46 (by decide) (fun c3 => ?_) (fun c3 => ?_)
          · have c3 : ¬ (l4_35 = true) := bI_f c3
            refine vv_iconst (v := 0) hC dX9_locked_89 (by decide) ?_
            have hz := hJ4
            try simp only [f_X9_locked_x1, if_neg c3] at hz
            first | exact hz | (simp only [f_X9_locked_x1, if_neg c3]; exact hz)
          · have c3 : l4_35 = true := bI_t c3
            refine vv_iload_n hC 1 dX9_locked_49 rfl rfl ?_
            refine vv_iload hC 5 dX9_locked_50 rfl ?_
            refine vv_callS hC dX9_locked_52 md_X9_has lk_m_X9_127 lk_t_X9_has (As := [.int (f_X9_suspects x_people ((f_X9_layTales x_houses x_people x_sights now tales sight went path home).1)), .int (nI k35)]) (rest := []) (c_X9_has g w2 (f_X9_suspects x_people ((f_X9_layTales x_houses x_people x_sights now tales sight went path home).1)) (nI k35)) rfl rfl (Nat.le_of_ble_eq_true rfl) ⟨by decide, by decide, by decide, by decide⟩ (fun r w9 hq => ?_)
            obtain ⟨rfl, rfl⟩ := hq
            show V g X 6 w2 0 0 55 [(0, .ref (B 0)), (1, .int (f_X9_suspects x_people ((f_X9_layTales x_houses x_people x_sights now tales sight went path home).1))), (2, .int l2_19), (3, .int (nI k19)), (4, .int (bI l4_35)), (5, .int (nI k35))] [.int (bI (f_X9_has (f_X9_suspects x_people ((f_X9_layTales x_houses x_people x_sights now tales sight went path home).1)) (nI k35)))]
            refine vv_if_eq hC 85 dX9_locked_55 (by decide) (fun c5 => ?_) (fun c5 => ?_)
            · have c5 : ¬ (f_X9_has (f_X9_suspects x_people ((f_X9_layTales x_houses x_people x_sights now tales sight went path home).1)) (nI k35) = true) := bI_f c5
              refine vv_iconst (v := 1) hC dX9_locked_85 (by decide) ?_
              refine vv_goto hC 90 dX9_locked_86 (by decide) ?_
              have hz := hJ4
              try simp only [f_X9_locked_x1, if_pos c3, if_neg c5] at hz
              first | exact hz | (simp only [f_X9_locked_x1, if_pos c3, if_neg c5]; exact hz)
            · have c5 : f_X9_has (f_X9_suspects x_people ((f_X9_layTales x_houses x_people x_sights now tales sight went path home).1)) (nI k35) = true := bI_t c5
              refine vv_iload_n hC 3 dX9_locked_58 rfl rfl ?_
              refine vv_aload_n hC 0 dX9_locked_59 rfl rfl ?_
              refine vv_get (v := .ref (B 5)) hC fl_X9_13 dX9_locked_60 h_m rfl ?_
              refine vv_iload hC 5 dX9_locked_63 rfl ?_
              refine vv_ialdn (t := k35) hC dX9_locked_65 h_home (by omega) (by decide) ?_
              refine vv_callS hC dX9_locked_66 md_X9_has lk_m_X9_127 lk_t_X9_has (As := [.int (nI k19), .int (home k35)]) (rest := []) (c_X9_has g w2 (nI k19) (home k35)) rfl rfl (Nat.le_of_ble_eq_true rfl) ⟨by decide, by decide, by decide, by decide⟩ (fun r w9 hq => ?_)
              obtain ⟨rfl, rfl⟩ := hq
              show V g X 6 w2 0 0 69 [(0, .ref (B 0)), (1, .int (f_X9_suspects x_people ((f_X9_layTales x_houses x_people x_sights now tales sight went path home).1))), (2, .int l2_19), (3, .int (nI k19)), (4, .int (bI l4_35)), (5, .int (nI k35))] [.int (bI (f_X9_has (nI k19) (home k35)))]
              refine vv_if_ne hC 85 dX9_locked_69 (by decide) (fun c6 => ?_) (fun c6 => ?_)
              · have c6 : f_X9_has (nI k19) (home k35) = true := bI_t c6
                refine vv_iconst (v := 1) hC dX9_locked_85 (by decide) ?_
                refine vv_goto hC 90 dX9_locked_86 (by decide) ?_
                have hz := hJ4
                try simp only [f_X9_locked_x1, if_pos c3, if_pos c5, if_pos c6] at hz
                first | exact hz | (simp only [f_X9_locked_x1, if_pos c3, if_pos c5, if_pos c6]; exact hz)
              · have c6 : ¬ (f_X9_has (nI k19) (home k35) = true) := bI_f c6
                refine vv_aload_n hC 0 dX9_locked_72 rfl rfl ?_
                refine vv_iload hC 5 dX9_locked_73 rfl ?_
                refine vv_callV hC dX9_locked_75 md_X9_goesTo lk_m_X9_174 lk_i_X9_goesTo lk_s_X9_goesTo h_m rfl (As := [.int (nI k35)]) (rest := []) (c_X9_goesTo g w2 B hB 0 x_houses x_people x_paths x_acts x_size x_at x_readHouses x_readPeople x_readPaths x_sights x_drawn now home path k35 (by omega) (by omega) (hom) h_m h_now h_home h_path) rfl rfl (Nat.le_of_ble_eq_true rfl) ⟨by decide, by decide, by decide, by decide⟩ (fun r w9 hq => ?_)
                obtain ⟨rfl, rfl⟩ := hq
                show V g X 6 w2 0 0 78 [(0, .ref (B 0)), (1, .int (f_X9_suspects x_people ((f_X9_layTales x_houses x_people x_sights now tales sight went path home).1))), (2, .int l2_19), (3, .int (nI k19)), (4, .int (bI l4_35)), (5, .int (nI k35))] [.int (f_X9_goesTo x_houses now home path k35)]
                refine vv_iload_n hC 3 dX9_locked_78 rfl rfl ?_
                refine vv_iconst (v := (-1)) hC dX9_locked_79 (by decide) ?_
                refine vv_ixor hC dX9_locked_80 ?_
                refine vv_iand hC dX9_locked_81 ?_
                refine vv_if_ne hC 89 dX9_locked_82 (by decide) (fun c7 => ?_) (fun c7 => ?_)
                · have c7 : ¬ ((f_X9_goesTo x_houses now home path k35 &&& (nI k19 ^^^ (-1))) = 0) := c7
                  refine vv_iconst (v := 0) hC dX9_locked_89 (by decide) ?_
                  have hz := hJ4
                  try simp only [f_X9_locked_x1, if_pos c3, if_pos c5, if_neg c6, if_neg c7] at hz
                  first | exact hz | (simp only [f_X9_locked_x1, if_pos c3, if_pos c5, if_neg c6, if_neg c7]; exact hz)
                · have c7 : (f_X9_goesTo x_houses now home path k35 &&& (nI k19 ^^^ (-1))) = 0 := c7
                  refine vv_iconst (v := 1) hC dX9_locked_85 (by decide) ?_
                  refine vv_goto hC 90 dX9_locked_86 (by decide) ?_
                  have hz := hJ4
                  try simp only [f_X9_locked_x1, if_pos c3, if_pos c5, if_neg c6, if_pos c7] at hz
                  first | exact hz | (simp only [f_X9_locked_x1, if_pos c3, if_pos c5, if_neg c6, if_pos c7]; exact hz)
      refine vv_lv [2, 3, 4, 5, 1, 0] rfl ?_
      refine hL8 x_people 0 true (f_X9_locked_L35 x_houses x_people x_sights now tales sight went path home k19 x_people 0 true) (by omega) rfl ?_
      refine vv_iload hC 4 dX9_locked_98 rfl ?_
      have hJ10 : V g X 6 w2 0 0 125 [(0, .ref (B 0)), (1, .int (f_X9_suspects x_people ((f_X9_layTales x_houses x_people x_sights now tales sight went path home).1))), (2, .int l2_19), (3, .int (nI k19)), (4, .int (bI (f_X9_locked_L35 x_houses x_people x_sights now tales sight went path home k19 x_people 0 true)))] [.int (if (f_X9_locked_L35 x_houses x_people x_sights now tales sight went path home k19 x_people 0 true) = true then (if l2_19 = (-9) then nI k19 else (if f_X9_bits l2_19 ≤ f_X9_bits (nI k19) then l2_19 else nI k19)) else l2_19)] := by
        refine vv_istore_n (lv2 := [(2, .int (if (f_X9_locked_L35 x_houses x_people x_sights now tales sight went path home k19 x_people 0 true) = true then (if l2_19 = (-9) then nI k19 else (if f_X9_bits l2_19 ≤ f_X9_bits (nI k19) then l2_19 else nI k19)) else l2_19)), (0, .ref (B 0)), (1, .int (f_X9_suspects x_people ((f_X9_layTales x_houses x_people x_sights now tales sight went path home).1))), (3, .int (nI k19)), (4, .int (bI (f_X9_locked_L35 x_houses x_people x_sights now tales sight went path home k19 x_people 0 true)))]) hC dX9_locked_125 rfl (by decide) rfl ?_
        refine vv_iinc (lv2 := [(3, .int (nI (k19 + 1))), (2, .int (if (f_X9_locked_L35 x_houses x_people x_sights now tales sight went path home k19 x_people 0 true) = true then (if l2_19 = (-9) then nI k19 else (if f_X9_bits l2_19 ≤ f_X9_bits (nI k19) then l2_19 else nI k19)) else l2_19)), (0, .ref (B 0)), (1, .int (f_X9_suspects x_people ((f_X9_layTales x_houses x_people x_sights now tales sight went path home).1))), (4, .int (bI (f_X9_locked_L35 x_houses x_people x_sights now tales sight went path home k19 x_people 0 true)))]) hC 3 dX9_locked_126 rfl (nI_add k19 1) (by decide) rfl ?_
        refine vv_goto hC 19 dX9_locked_129 (by decide) ?_
        refine vv_lv [2, 3, 1, 0] rfl ?_
        exact ih (k19 + 1) (if (f_X9_locked_L35 x_houses x_people x_sights now tales sight went path home k19 x_people 0 true) = true then (if l2_19 = (-9) then nI k19 else (if f_X9_bits l2_19 ≤ f_X9_bits (nI k19) then l2_19 else nI k19)) else l2_19) out (by omega) (ho.trans (by first | (simp only [f_X9_locked_L19]; done) | rfl | (simp only [f_X9_locked_L19]; rfl))) hk
      refine vv_if_eq hC 124 dX9_locked_100 (by decide) (fun c9 => ?_) (fun c9 => ?_)
      · have c9 : ¬ ((f_X9_locked_L35 x_houses x_people x_sights now tales sight went path home k19 x_people 0 true) = true) := bI_f c9
        refine vv_iload_n hC 2 dX9_locked_124 rfl rfl ?_
        have hz := hJ10
        try simp only [if_neg c9] at hz
        first | exact hz | (simp only [if_neg c9]; exact hz)
      · have c9 : (f_X9_locked_L35 x_houses x_people x_sights now tales sight went path home k19 x_people 0 true) = true := bI_t c9
        refine vv_iload_n hC 2 dX9_locked_103 rfl rfl ?_
        refine vv_bipush (v := (-9)) hC dX9_locked_104 (by decide) ?_
        refine vv_icmp_eq hC 120 dX9_locked_106 (by decide) (fun c11 => ?_) (fun c11 => ?_)
        · have c11 : l2_19 = (-9) := c11
          refine vv_iload_n hC 3 dX9_locked_120 rfl rfl ?_
          refine vv_goto hC 125 dX9_locked_121 (by decide) ?_
          have hz := hJ10
          try simp only [if_pos c9, if_pos c11] at hz
          first | exact hz | (simp only [if_pos c9, if_pos c11]; exact hz)
        · have c11 : ¬ (l2_19 = (-9)) := c11
          refine vv_iload_n hC 3 dX9_locked_109 rfl rfl ?_
          refine vv_callS hC dX9_locked_110 md_X9_bits lk_m_X9_251 lk_t_X9_bits (As := [.int (nI k19)]) (rest := []) (c_X9_bits g w2 (nI k19)) rfl rfl (Nat.le_of_ble_eq_true rfl) ⟨by decide, by decide, by decide, by decide⟩ (fun r w9 hq => ?_)
          obtain ⟨rfl, rfl⟩ := hq
          show V g X 6 w2 0 0 113 [(0, .ref (B 0)), (1, .int (f_X9_suspects x_people ((f_X9_layTales x_houses x_people x_sights now tales sight went path home).1))), (2, .int l2_19), (3, .int (nI k19)), (4, .int (bI (f_X9_locked_L35 x_houses x_people x_sights now tales sight went path home k19 x_people 0 true)))] [.int (f_X9_bits (nI k19))]
          refine vv_iload_n hC 2 dX9_locked_113 rfl rfl ?_
          refine vv_callS hC dX9_locked_114 md_X9_bits lk_m_X9_251 lk_t_X9_bits (As := [.int l2_19]) (rest := [.int (f_X9_bits (nI k19))]) (c_X9_bits g w2 l2_19) rfl rfl (Nat.le_of_ble_eq_true rfl) ⟨by decide, by decide, by decide, by decide⟩ (fun r w9 hq => ?_)
          obtain ⟨rfl, rfl⟩ := hq
          show V g X 6 w2 0 0 117 [(0, .ref (B 0)), (1, .int (f_X9_suspects x_people ((f_X9_layTales x_houses x_people x_sights now tales sight went path home).1))), (2, .int l2_19), (3, .int (nI k19)), (4, .int (bI (f_X9_locked_L35 x_houses x_people x_sights now tales sight went path home k19 x_people 0 true)))] [.int (f_X9_bits l2_19), .int (f_X9_bits (nI k19))]
          refine vv_icmp_ge hC 124 dX9_locked_117 (by decide) (fun c12 => ?_) (fun c12 => ?_)
          · have c12 : f_X9_bits l2_19 ≤ f_X9_bits (nI k19) := c12
            refine vv_iload_n hC 2 dX9_locked_124 rfl rfl ?_
            have hz := hJ10
            try simp only [if_pos c9, if_neg c11, if_pos c12] at hz
            first | exact hz | (simp only [if_pos c9, if_neg c11, if_pos c12]; exact hz)
          · have c12 : ¬ (f_X9_bits l2_19 ≤ f_X9_bits (nI k19)) := c12
            refine vv_iload_n hC 3 dX9_locked_120 rfl rfl ?_
            refine vv_goto hC 125 dX9_locked_121 (by decide) ?_
            have hz := hJ10
            try simp only [if_pos c9, if_neg c11, if_neg c12] at hz
            first | exact hz | (simp only [if_pos c9, if_neg c11, if_neg c12]; exact hz)
  refine vv_lv [3, 2, 1, 0] rfl ?_
  refine hL13 (pw x_houses) 0 (-9) (f_X9_locked_L19 x_houses x_people x_sights now tales sight went path home (pw x_houses) 0 (-9)) (by omega) rfl ?_
  refine vv_iload_n hC 2 dX9_locked_132 rfl rfl ?_
  have hf : (f_X9_locked x_houses x_people x_sights now tales sight went path home) = ((f_X9_locked_L19 x_houses x_people x_sights now tales sight went path home (pw x_houses) 0 (-9)), 0, (f_X9_layTales x_houses x_people x_sights now tales sight went path home).1, (f_X9_layTales x_houses x_people x_sights now tales sight went path home).2) := by first | (simp only [f_X9_locked]; done) | rfl | (simp only [f_X9_locked]; rfl)
  refine vv_iret hC hR rfl dX9_locked_133 (by omega) (by omega) ?_
  rw [hf]
  try dsimp only
  exact ⟨rfl, h_m, h_tales, h_went, hE⟩
