def f_X9_waysOf_L2 : Nat → Nat → (Nat → Int32) → (Nat → Int32)
  | 0, k2, y_went_2 => y_went_2
  | r2 + 1, k2, y_went_2 => f_X9_waysOf_L2 r2 (k2 + 1) (upd y_went_2 k2 0)
def f_X9_waysOf_L26 (x_houses : Nat) (x_people : Nat) (x_sights : Nat) (sight : Nat → Int32) (path : Nat → Int32) (home : Nat → Int32) (now : Nat → Int32) (p1 : Int32) (p2 : Int32) : Nat → Int64 → Bool → (Nat → Int32) → Int64 × Bool × (Nat → Int32)
  | 0, l3_26, l5_26, y_went_26 => (l3_26, l5_26, y_went_26)
  | r26 + 1, l3_26, l5_26, y_went_26 => (if l5_26 = true then f_X9_waysOf_L26 x_houses x_people x_sights sight path home now p1 p2 r26 (l3_26 + (if f_X9_isSeen x_houses x_people x_sights sight y_went_26 path home now p2 = true then (1 : Int64) else (0 : Int64))) ((f_X9_nextWays x_houses x_people now home path y_went_26 p1).1) ((f_X9_nextWays x_houses x_people now home path y_went_26 p1).2) else (l3_26, l5_26, y_went_26))
def f_X9_waysOf_L26_E (x_houses : Nat) (x_people : Nat) (x_sights : Nat) (sight : Nat → Int32) (path : Nat → Int32) (home : Nat → Int32) (now : Nat → Int32) (p1 : Int32) (p2 : Int32) : Nat → Int64 → Bool → (Nat → Int32) → Bool
  | 0, l3_26, l5_26, y_went_26 => (if l5_26 = true then false else true)
  | r26 + 1, l3_26, l5_26, y_went_26 => (if l5_26 = true then f_X9_waysOf_L26_E x_houses x_people x_sights sight path home now p1 p2 r26 (l3_26 + (if f_X9_isSeen x_houses x_people x_sights sight y_went_26 path home now p2 = true then (1 : Int64) else (0 : Int64))) ((f_X9_nextWays x_houses x_people now home path y_went_26 p1).1) ((f_X9_nextWays x_houses x_people now home path y_went_26 p1).2) else true)
def f_X9_waysOf (x_houses : Nat) (x_people : Nat) (x_sights : Nat) (went : Nat → Int32) (sight : Nat → Int32) (path : Nat → Int32) (home : Nat → Int32) (now : Nat → Int32) (p1 : Int32) (p2 : Int32) : Int64 × (Nat → Int32) := ((f_X9_waysOf_L26 x_houses x_people x_sights sight path home now p1 p2 fuelW 0 true (f_X9_waysOf_L2 6 0 went)).1, (f_X9_waysOf_L26 x_houses x_people x_sights sight path home now p1 p2 fuelW 0 true (f_X9_waysOf_L2 6 0 went)).2.2)
theorem waysOf_0 : ∀ (r k : Nat) (w : Nat → Int32), (∀ q, q < k → w q = 0) → ∀ q, q < k + r → f_X9_waysOf_L2 r k w q = 0 := by
  intro r
  induction r with
  | zero => intro k w h; exact h
  | succ r ih =>
    intro k w h q hq
    simp only [f_X9_waysOf_L2]
    refine ih (k + 1) _ (fun q hq => ?_) q (by omega)
    by_cases z : q = k
    · simp [upd, z]
    · simp only [upd, if_neg z]; exact h q (by omega)
theorem waysOf_w {w : Nat → Int32} : wOK (f_X9_waysOf_L2 6 0 w) := wOK_0 (fun q hq => waysOf_0 6 0 w (fun _ h => absurd h (by omega)) q (by omega))

set_option maxHeartbeats 4000000 in
set_option maxRecDepth 100000 in
theorem c_X9_waysOf (g : GT) (w0 : Wd) (B : Nat → Nat) (hB : ∀ i j, i < 60 → j < 60 → B i = B j → i = j) (x_thrown : Int32) (x_houses : Nat) (x_people : Nat) (x_paths : Nat) (x_acts : Nat) (x_size : Nat) (x_at : Nat) (x_readHouses : Nat) (x_readPeople : Nat) (x_readPaths : Nat) (x_sights : Nat) (x_drawn : Int64) (went : Nat → Int32) (sight : Nat → Int32) (path : Nat → Int32) (home : Nat → Int32) (now : Nat → Int32) (p1 : Int32) (p2 : Int32) (hxp : x_people ≤ 6) (hxh : x_houses ≤ 4) (hom : ∀ q, q < 6 → home q = nI (tn (home q)) ∧ tn (home q) < 4) (hsi : x_sights ≤ 6) (hend : f_X9_waysOf_L26_E x_houses x_people x_sights sight path home now p1 p2 fuelW 0 true (f_X9_waysOf_L2 6 0 went) = true) (h_m : w0 (B 0) = some (.inr (9, cM B (x_thrown, x_houses, x_people, x_paths, x_acts, x_size, x_at, x_readHouses, x_readPeople, x_readPaths, x_sights, x_drawn)))) (h_went : w0 (B 24) = some (.inl (g.2.2.1 0, 6, .inl went))) (h_sight : w0 (B 22) = some (.inl (g.2.2.1 0, 24, .inl sight))) (h_path : w0 (B 4) = some (.inl (g.2.2.1 0, 16, .inl path))) (h_home : w0 (B 5) = some (.inl (g.2.2.1 0, 6, .inl home))) (h_now : w0 (B 7) = some (.inl (g.2.2.1 0, 43, .inl now))) : CT g yX9_waysOf cX9_waysOf 6 (some .long) 3 74 0 0 w0 [.ref (B 0), .int p1, .int p2] (fun r w2 => r = some (.long ((f_X9_waysOf x_houses x_people x_sights went sight path home now p1 p2).1)) ∧ w2 (B 24) = some (.inl (g.2.2.1 0, 6, .inl ((f_X9_waysOf x_houses x_people x_sights went sight path home now p1 p2).2))) ∧ wE (fun q => q = (B 24)) w0 w2) := by
  refine CT.of (own := RX9) (by decide +kernel) rfl (Nat.le_of_ble_eq_true rfl) (fun X hC hR hI => ?_)
  show V g X 6 w0 0 0 0 [(0, .ref (B 0)), (1, .int p1), (2, .int p2)] []
  have hE : wE (fun q => q = (B 24)) w0 w0 := wE.refl
  refine vv_iconst (v := 0) hC dX9_waysOf_0 (by decide) ?_
  refine vv_istore_n (lv2 := [(3, .int 0), (0, .ref (B 0)), (1, .int p1), (2, .int p2)]) hC dX9_waysOf_1 rfl (by decide) rfl ?_
  have hL4 : ∀ (r2 k2 : Nat) (y_went_2 : Nat → Int32) (w1 : Wd) (out : (Nat → Int32)), k2 + r2 = 6 → out = f_X9_waysOf_L2 r2 k2 y_went_2 → w1 (B 0) = some (.inr (9, cM B (x_thrown, x_houses, x_people, x_paths, x_acts, x_size, x_at, x_readHouses, x_readPeople, x_readPaths, x_sights, x_drawn))) → w1 (B 24) = some (.inl (g.2.2.1 0, 6, .inl y_went_2)) → w1 (B 22) = some (.inl (g.2.2.1 0, 24, .inl sight)) → w1 (B 4) = some (.inl (g.2.2.1 0, 16, .inl path)) → w1 (B 5) = some (.inl (g.2.2.1 0, 6, .inl home)) → w1 (B 7) = some (.inl (g.2.2.1 0, 43, .inl now)) → wE (fun q => q = (B 24)) w0 w1 → (∀ w3 : Wd, w3 (B 0) = some (.inr (9, cM B (x_thrown, x_houses, x_people, x_paths, x_acts, x_size, x_at, x_readHouses, x_readPeople, x_readPaths, x_sights, x_drawn))) → w3 (B 24) = some (.inl (g.2.2.1 0, 6, .inl out)) → w3 (B 22) = some (.inl (g.2.2.1 0, 24, .inl sight)) → w3 (B 4) = some (.inl (g.2.2.1 0, 16, .inl path)) → w3 (B 5) = some (.inl (g.2.2.1 0, 6, .inl home)) → w3 (B 7) = some (.inl (g.2.2.1 0, 43, .inl now)) → wE (fun q => q = (B 24)) w0 w3 → V g X 6 w3 0 0 21 [(0, .ref (B 0)), (1, .int p1), (2, .int p2)] []) → V g X 6 w1 0 0 2 [(0, .ref (B 0)), (1, .int p1), (2, .int p2), (3, .int (nI k2))] [] := by
    intro r2
    induction r2 with
    | zero =>
      intro k2 y_went_2 w1 out hb ho h_m h_went h_sight h_path h_home h_now hE hk
      refine vv_iload_n hC 3 dX9_waysOf_2 rfl rfl ?_
      refine vv_bipush (v := (6)) hC dX9_waysOf_3 (by decide) ?_
      refine vv_icmp_ge hC 21 dX9_waysOf_5 (by decide) (fun c => ?_) (fun c => False.elim (c ((nI_le_ (a := 6) (b := k2) (by omega) (by omega)).mpr (by omega))))
      refine vv_lv [0, 1, 2] rfl ?_
      have ho := ho.trans (by first | (simp only [f_X9_waysOf_L2]; done) | rfl | (simp only [f_X9_waysOf_L2]; rfl) : _ = y_went_2)
      subst ho
      exact hk w1 h_m h_went h_sight h_path h_home h_now hE
    | succ r2 ih =>
      intro k2 y_went_2 w1 out hb ho h_m h_went h_sight h_path h_home h_now hE hk
      refine vv_iload_n hC 3 dX9_waysOf_2 rfl rfl ?_
      refine vv_bipush (v := (6)) hC dX9_waysOf_3 (by decide) ?_
      refine vv_icmp_ge hC 21 dX9_waysOf_5 (by decide) (fun c => absurd ((nI_le_ (a := 6) (b := k2) (by omega) (by omega)).mp c) (by first | omega | decide)) (fun c => ?_)
      refine vv_aload_n hC 0 dX9_waysOf_8 rfl rfl ?_
      refine vv_get (v := .ref (B 24)) hC fl_X9_50 dX9_waysOf_9 h_m rfl ?_
      refine vv_iload_n hC 3 dX9_waysOf_12 rfl rfl ?_
      refine vv_iconst (v := 0) hC dX9_waysOf_13 (by decide) ?_
      refine vv_iastn (t := k2) hC dX9_waysOf_14 h_went (by omega) (by decide) (fun w2 t1 hs => ?_)
      have t1 : w2 (B 24) = some (.inl (g.2.2.1 0, 6, .inl (upd y_went_2 k2 0))) := t1
      have h_m := hs _ _ (fw_oa h_m h_went) h_m
      have h_sight := hs _ _ (fw_inj hB (by decide) (by decide) (by decide)) h_sight
      have h_path := hs _ _ (fw_inj hB (by decide) (by decide) (by decide)) h_path
      have h_home := hs _ _ (fw_inj hB (by decide) (by decide) (by decide)) h_home
      have h_now := hs _ _ (fw_inj hB (by decide) (by decide) (by decide)) h_now
      have h_went := t1
      have hE := hE.trans (hs.mono (fun _ z => z))
      refine vv_iinc (lv2 := [(3, .int (nI (k2 + 1))), (0, .ref (B 0)), (1, .int p1), (2, .int p2)]) hC 3 dX9_waysOf_15 rfl (nI_add k2 1) (by decide) rfl ?_
      refine vv_goto hC 2 dX9_waysOf_18 (by decide) ?_
      refine vv_lv [1, 2, 3, 0] rfl ?_
      exact ih (k2 + 1) (upd y_went_2 k2 0) w2 out (by omega) (ho.trans (by first | (simp only [f_X9_waysOf_L2]; done) | rfl | (simp only [f_X9_waysOf_L2]; rfl))) h_m h_went h_sight h_path h_home h_now hE hk
  refine vv_lv [1, 2, 3, 0] rfl ?_
  refine hL4 6 0 went w0 (f_X9_waysOf_L2 6 0 went) (by omega) rfl h_m h_went h_sight h_path h_home h_now hE ?_
  intro w3 h_m h_went h_sight h_path h_home h_now hE
  refine vv_lconst (v := 0) hC dX9_waysOf_21 (by decide) ?_
  refine vv_lstore_n (lv2 := [(3, .long 0), (0, .ref (B 0)), (1, .int p1), (2, .int p2)]) hC dX9_waysOf_22 rfl (by decide) rfl ?_
  refine vv_iconst (v := 1) hC dX9_waysOf_23 (by decide) ?_
  refine vv_istore (lv2 := [(5, .int 1), (3, .long 0), (0, .ref (B 0)), (1, .int p1), (2, .int p2)]) hC dX9_waysOf_24 (by decide) rfl ?_
  have hL15 : ∀ (r26 : Nat) (l3_26 : Int64) (l5_26 : Bool) (y_went_26 : Nat → Int32) (w5 : Wd) (out : Int64 × Bool × (Nat → Int32)), wOK y_went_26 → f_X9_waysOf_L26_E x_houses x_people x_sights sight path home now p1 p2 r26 l3_26 l5_26 y_went_26 = true → out = f_X9_waysOf_L26 x_houses x_people x_sights sight path home now p1 p2 r26 l3_26 l5_26 y_went_26 → w5 (B 0) = some (.inr (9, cM B (x_thrown, x_houses, x_people, x_paths, x_acts, x_size, x_at, x_readHouses, x_readPeople, x_readPaths, x_sights, x_drawn))) → w5 (B 24) = some (.inl (g.2.2.1 0, 6, .inl y_went_26)) → w5 (B 22) = some (.inl (g.2.2.1 0, 24, .inl sight)) → w5 (B 4) = some (.inl (g.2.2.1 0, 16, .inl path)) → w5 (B 5) = some (.inl (g.2.2.1 0, 6, .inl home)) → w5 (B 7) = some (.inl (g.2.2.1 0, 43, .inl now)) → wE (fun q => q = (B 24)) w0 w5 → (∀ w14 : Wd, w14 (B 0) = some (.inr (9, cM B (x_thrown, x_houses, x_people, x_paths, x_acts, x_size, x_at, x_readHouses, x_readPeople, x_readPaths, x_sights, x_drawn))) → w14 (B 24) = some (.inl (g.2.2.1 0, 6, .inl out.2.2)) → w14 (B 22) = some (.inl (g.2.2.1 0, 24, .inl sight)) → w14 (B 4) = some (.inl (g.2.2.1 0, 16, .inl path)) → w14 (B 5) = some (.inl (g.2.2.1 0, 6, .inl home)) → w14 (B 7) = some (.inl (g.2.2.1 0, 43, .inl now)) → wE (fun q => q = (B 24)) w0 w14 → V g X 6 w14 0 0 57 [(0, .ref (B 0)), (1, .int p1), (2, .int p2), (3, .long out.1), (5, .int (bI out.2.1))] []) → V g X 6 w5 0 0 26 [(0, .ref (B 0)), (1, .int p1), (2, .int p2), (3, .long l3_26), (5, .int (bI l5_26))] [] := by
    intro r26
    induction r26 with
    | zero =>
      intro l3_26 l5_26 y_went_26 w5 out hw he ho h_m h_went h_sight h_path h_home h_now hE hk
      refine vv_iload hC 4 dX9_waysOf_26 rfl ?_
      refine vv_if_eq hC 57 dX9_waysOf_28 (by decide) (fun c6 => ?_) (fun c6 => ?_)
      · have c6 : ¬ (l5_26 = true) := bI_f c6
        have ho := ho.trans (by first | (simp only [f_X9_waysOf_L26, if_neg c6]; done) | rfl | (simp only [f_X9_waysOf_L26, if_neg c6]; rfl) : _ = (l3_26, l5_26, y_went_26))
        subst ho
        exact hk w5 h_m h_went h_sight h_path h_home h_now hE
      · have c6 : l5_26 = true := bI_t c6
        refine vv_lload_n hC 3 dX9_waysOf_31 rfl rfl ?_
        refine vv_aload_n hC 0 dX9_waysOf_32 rfl rfl ?_
        refine vv_iload_n hC 2 dX9_waysOf_33 rfl rfl ?_
        refine vv_callV hC dX9_waysOf_34 md_X9_isSeen lk_m_X9_212 lk_i_X9_isSeen lk_s_X9_isSeen h_m rfl (As := [.int p2]) (rest := [.long l3_26]) (c_X9_isSeen g w5 B hB x_thrown x_houses x_people x_paths x_acts x_size x_at x_readHouses x_readPeople x_readPaths x_sights x_drawn sight y_went_26 path home now p2 (by omega) (by omega) (by omega) (hom) h_m h_sight h_went h_path h_home h_now) rfl rfl (Nat.le_of_ble_eq_true rfl) ⟨by decide, by decide, by decide, by decide⟩ (fun r w9 hq => ?_)
        obtain ⟨rfl, rfl⟩ := hq
        show V g X 6 w5 0 0 37 [(0, .ref (B 0)), (1, .int p1), (2, .int p2), (3, .long l3_26), (5, .int (bI l5_26))] [.int (bI (f_X9_isSeen x_houses x_people x_sights sight y_went_26 path home now p2)), .long l3_26]
        have hJ8 : V g X 6 w5 0 0 45 [(0, .ref (B 0)), (1, .int p1), (2, .int p2), (3, .long l3_26), (5, .int (bI l5_26))] [.long (if f_X9_isSeen x_houses x_people x_sights sight y_went_26 path home now p2 = true then (1 : Int64) else (0 : Int64)), .long l3_26] := by
          refine vv_ladd hC dX9_waysOf_45 ?_
          refine vv_lstore_n (lv2 := [(3, .long (l3_26 + (if f_X9_isSeen x_houses x_people x_sights sight y_went_26 path home now p2 = true then (1 : Int64) else (0 : Int64)))), (0, .ref (B 0)), (1, .int p1), (2, .int p2), (5, .int (bI l5_26))]) hC dX9_waysOf_46 rfl (by decide) rfl ?_
          refine vv_aload_n hC 1 dX9_waysOf_47 rfl rfl ?_
          refine vv_iload_n hC 2 dX9_waysOf_48 rfl rfl ?_
          refine vv_callV hC dX9_waysOf_49 md_X9_nextWays lk_m_X9_215 lk_i_X9_nextWays lk_s_X9_nextWays h_m rfl (As := [.int p1]) (rest := []) (c_X9_nextWays g w5 B hB x_thrown x_houses x_people x_paths x_acts x_size x_at x_readHouses x_readPeople x_readPaths x_sights x_drawn now home path y_went_26 p1 (by omega) (by omega) (hom) (by omega) h_m h_now h_home h_path h_went) rfl rfl (Nat.le_of_ble_eq_true rfl) ⟨by decide, by decide, by decide, by decide⟩ (fun r w9 hq => ?_)
          obtain ⟨rfl, t1, hs⟩ := hq
          obtain ⟨w9, rfl⟩ : ∃ z, z = w9 := ⟨_, rfl⟩
          have h_m := hs _ _ (fw_oa h_m h_went) h_m
          have h_sight := hs _ _ (fw_inj hB (by decide) (by decide) (by decide)) h_sight
          have h_path := hs _ _ (fw_inj hB (by decide) (by decide) (by decide)) h_path
          have h_home := hs _ _ (fw_inj hB (by decide) (by decide) (by decide)) h_home
          have h_now := hs _ _ (fw_inj hB (by decide) (by decide) (by decide)) h_now
          have h_went := t1
          have hE := hE.trans (hs.mono (fun _ z => z))
          show V g X 6 w9 0 0 52 [(3, .long (l3_26 + (if f_X9_isSeen x_houses x_people x_sights sight y_went_26 path home now p2 = true then (1 : Int64) else (0 : Int64)))), (0, .ref (B 0)), (1, .int p1), (2, .int p2), (5, .int (bI l5_26))] [.int (bI ((f_X9_nextWays x_houses x_people now home path y_went_26 p1).1))]
          refine vv_istore (lv2 := [(5, .int (bI ((f_X9_nextWays x_houses x_people now home path y_went_26 p1).1))), (3, .long (l3_26 + (if f_X9_isSeen x_houses x_people x_sights sight y_went_26 path home now p2 = true then (1 : Int64) else (0 : Int64)))), (0, .ref (B 0)), (1, .int p1), (2, .int p2)]) hC dX9_waysOf_52 (by decide) rfl ?_
          refine vv_goto hC 26 dX9_waysOf_54 (by decide) ?_
          refine vv_lv [2, 3, 4, 1, 0] rfl ?_
          exact absurd (he.symm.trans (by simp only [f_X9_waysOf_L26_E, if_pos c6] : f_X9_waysOf_L26_E x_houses x_people x_sights sight path home now p1 p2 0 l3_26 l5_26 y_went_26 = false)) (by decide)
        refine vv_if_eq hC 44 dX9_waysOf_37 (by decide) (fun c7 => ?_) (fun c7 => ?_)
        · have c7 : ¬ (f_X9_isSeen x_houses x_people x_sights sight y_went_26 path home now p2 = true) := bI_f c7
          refine vv_lconst (v := 0) hC dX9_waysOf_44 (by decide) ?_
          have hz := hJ8
          try simp only [if_neg c7] at hz
          first | exact hz | (simp only [if_neg c7]; exact hz)
        · have c7 : f_X9_isSeen x_houses x_people x_sights sight y_went_26 path home now p2 = true := bI_t c7
          refine vv_lconst (v := 1) hC dX9_waysOf_40 (by decide) ?_
          refine vv_goto hC 45 dX9_waysOf_41 (by decide) ?_
          have hz := hJ8
          try simp only [if_pos c7] at hz
          first | exact hz | (simp only [if_pos c7]; exact hz)
    | succ r26 ih =>
      intro l3_26 l5_26 y_went_26 w5 out hw he ho h_m h_went h_sight h_path h_home h_now hE hk
      refine vv_iload hC 4 dX9_waysOf_26 rfl ?_
      refine vv_if_eq hC 57 dX9_waysOf_28 (by decide) (fun c10 => ?_) (fun c10 => ?_)
      · have c10 : ¬ (l5_26 = true) := bI_f c10
        have ho := ho.trans (by first | (simp only [f_X9_waysOf_L26, if_neg c10]; done) | rfl | (simp only [f_X9_waysOf_L26, if_neg c10]; rfl) : _ = (l3_26, l5_26, y_went_26))
        subst ho
        exact hk w5 h_m h_went h_sight h_path h_home h_now hE
      · have c10 : l5_26 = true := bI_t c10
        refine vv_lload_n hC 3 dX9_waysOf_31 rfl rfl ?_
        refine vv_aload_n hC 0 dX9_waysOf_32 rfl rfl ?_
        refine vv_iload_n hC 2 dX9_waysOf_33 rfl rfl ?_
        refine vv_callV hC dX9_waysOf_34 md_X9_isSeen lk_m_X9_212 lk_i_X9_isSeen lk_s_X9_isSeen h_m rfl (As := [.int p2]) (rest := [.long l3_26]) (c_X9_isSeen g w5 B hB x_thrown x_houses x_people x_paths x_acts x_size x_at x_readHouses x_readPeople x_readPaths x_sights x_drawn sight y_went_26 path home now p2 (by omega) (by omega) (by omega) (hom) h_m h_sight h_went h_path h_home h_now) rfl rfl (Nat.le_of_ble_eq_true rfl) ⟨by decide, by decide, by decide, by decide⟩ (fun r w9 hq => ?_)
        obtain ⟨rfl, rfl⟩ := hq
        show V g X 6 w5 0 0 37 [(0, .ref (B 0)), (1, .int p1), (2, .int p2), (3, .long l3_26), (5, .int (bI l5_26))] [.int (bI (f_X9_isSeen x_houses x_people x_sights sight y_went_26 path home now p2)), .long l3_26]
        have hJ12 : V g X 6 w5 0 0 45 [(0, .ref (B 0)), (1, .int p1), (2, .int p2), (3, .long l3_26), (5, .int (bI l5_26))] [.long (if f_X9_isSeen x_houses x_people x_sights sight y_went_26 path home now p2 = true then (1 : Int64) else (0 : Int64)), .long l3_26] := by
          refine vv_ladd hC dX9_waysOf_45 ?_
          refine vv_lstore_n (lv2 := [(3, .long (l3_26 + (if f_X9_isSeen x_houses x_people x_sights sight y_went_26 path home now p2 = true then (1 : Int64) else (0 : Int64)))), (0, .ref (B 0)), (1, .int p1), (2, .int p2), (5, .int (bI l5_26))]) hC dX9_waysOf_46 rfl (by decide) rfl ?_
          refine vv_aload_n hC 1 dX9_waysOf_47 rfl rfl ?_
          refine vv_iload_n hC 2 dX9_waysOf_48 rfl rfl ?_
          refine vv_callV hC dX9_waysOf_49 md_X9_nextWays lk_m_X9_215 lk_i_X9_nextWays lk_s_X9_nextWays h_m rfl (As := [.int p1]) (rest := []) (c_X9_nextWays g w5 B hB x_thrown x_houses x_people x_paths x_acts x_size x_at x_readHouses x_readPeople x_readPaths x_sights x_drawn now home path y_went_26 p1 (by omega) (by omega) (hom) (by omega) h_m h_now h_home h_path h_went) rfl rfl (Nat.le_of_ble_eq_true rfl) ⟨by decide, by decide, by decide, by decide⟩ (fun r w9 hq => ?_)
          obtain ⟨rfl, t1, hs⟩ := hq
          obtain ⟨w13, rfl⟩ : ∃ z, z = w9 := ⟨_, rfl⟩
          have h_m := hs _ _ (fw_oa h_m h_went) h_m
          have h_sight := hs _ _ (fw_inj hB (by decide) (by decide) (by decide)) h_sight
          have h_path := hs _ _ (fw_inj hB (by decide) (by decide) (by decide)) h_path
          have h_home := hs _ _ (fw_inj hB (by decide) (by decide) (by decide)) h_home
          have h_now := hs _ _ (fw_inj hB (by decide) (by decide) (by decide)) h_now
          have h_went := t1
          have hE := hE.trans (hs.mono (fun _ z => z))
          show V g X 6 w13 0 0 52 [(3, .long (l3_26 + (if f_X9_isSeen x_houses x_people x_sights sight y_went_26 path home now p2 = true then (1 : Int64) else (0 : Int64)))), (0, .ref (B 0)), (1, .int p1), (2, .int p2), (5, .int (bI l5_26))] [.int (bI ((f_X9_nextWays x_houses x_people now home path y_went_26 p1).1))]
          refine vv_istore (lv2 := [(5, .int (bI ((f_X9_nextWays x_houses x_people now home path y_went_26 p1).1))), (3, .long (l3_26 + (if f_X9_isSeen x_houses x_people x_sights sight y_went_26 path home now p2 = true then (1 : Int64) else (0 : Int64)))), (0, .ref (B 0)), (1, .int p1), (2, .int p2)]) hC dX9_waysOf_52 (by decide) rfl ?_
          refine vv_goto hC 26 dX9_waysOf_54 (by decide) ?_
          refine vv_lv [2, 3, 4, 1, 0] rfl ?_
          exact ih (l3_26 + (if f_X9_isSeen x_houses x_people x_sights sight y_went_26 path home now p2 = true then (1 : Int64) else (0 : Int64))) ((f_X9_nextWays x_houses x_people now home path y_went_26 p1).1) ((f_X9_nextWays x_houses x_people now home path y_went_26 p1).2) w13 out (nextWays_OK hxh hxp hw) (Eq.trans (Eq.symm (by first | (simp only [f_X9_waysOf_L26_E, if_pos c10]; done) | rfl : f_X9_waysOf_L26_E x_houses x_people x_sights sight path home now p1 p2 (r26 + 1) l3_26 l5_26 y_went_26 = f_X9_waysOf_L26_E x_houses x_people x_sights sight path home now p1 p2 r26 (l3_26 + (if f_X9_isSeen x_houses x_people x_sights sight y_went_26 path home now p2 = true then (1 : Int64) else (0 : Int64))) ((f_X9_nextWays x_houses x_people now home path y_went_26 p1).1) ((f_X9_nextWays x_houses x_people now home path y_went_26 p1).2))) he) (ho.trans (by first | (simp only [f_X9_waysOf_L26, if_pos c10]; done) | rfl | (simp only [f_X9_waysOf_L26, if_pos c10]; rfl))) h_m h_went h_sight h_path h_home h_now hE hk
        refine vv_if_eq hC 44 dX9_waysOf_37 (by decide) (fun c11 => ?_) (fun c11 => ?_)
        · have c11 : ¬ (f_X9_isSeen x_houses x_people x_sights sight y_went_26 path home now p2 = true) := bI_f c11
          refine vv_lconst (v := 0) hC dX9_waysOf_44 (by decide) ?_
          have hz := hJ12
          try simp only [if_neg c11] at hz
          first | exact hz | (simp only [if_neg c11]; exact hz)
        · have c11 : f_X9_isSeen x_houses x_people x_sights sight y_went_26 path home now p2 = true := bI_t c11
          refine vv_lconst (v := 1) hC dX9_waysOf_40 (by decide) ?_
          refine vv_goto hC 45 dX9_waysOf_41 (by decide) ?_
          have hz := hJ12
          try simp only [if_pos c11] at hz
          first | exact hz | (simp only [if_pos c11]; exact hz)
  refine vv_lv [2, 3, 4, 1, 0] rfl ?_
  refine hL15 fuelW 0 true (f_X9_waysOf_L2 6 0 went) w3 (f_X9_waysOf_L26 x_houses x_people x_sights sight path home now p1 p2 fuelW 0 true (f_X9_waysOf_L2 6 0 went)) (waysOf_w) (hend) rfl h_m h_went h_sight h_path h_home h_now hE ?_
  intro w14 h_m h_went h_sight h_path h_home h_now hE
  refine vv_lload_n hC 3 dX9_waysOf_57 rfl rfl ?_
  have hf : (f_X9_waysOf x_houses x_people x_sights went sight path home now p1 p2) = ((f_X9_waysOf_L26 x_houses x_people x_sights sight path home now p1 p2 fuelW 0 true (f_X9_waysOf_L2 6 0 went)).1, (f_X9_waysOf_L26 x_houses x_people x_sights sight path home now p1 p2 fuelW 0 true (f_X9_waysOf_L2 6 0 went)).2.2) := by first | (simp only [f_X9_waysOf]; done) | rfl | (simp only [f_X9_waysOf]; rfl)
  refine vv_lret hC hR rfl dX9_waysOf_58 (by omega) (by omega) ?_
  rw [hf]
  try dsimp only
  exact ⟨rfl, h_went, hE⟩
