def f_X9_nextWays_L34 (x_houses : Nat) (now : Nat → Int32) (home : Nat → Int32) (path : Nat → Int32) (k2 : Nat) : Nat → (Nat → Int32) → (Nat → Int32)
  | 0, y_went_34 => y_went_34
  | r34 + 1, y_went_34 => (if nI x_houses < y_went_34 k2 then y_went_34 else (if f_X9_has (f_X9_goesTo x_houses now home path k2) (y_went_34 k2 - 1) = true then y_went_34 else f_X9_nextWays_L34 x_houses now home path k2 r34 (upd y_went_34 k2 (y_went_34 k2 + 1))))
def f_X9_nextWays_L34_E (x_houses : Nat) (now : Nat → Int32) (home : Nat → Int32) (path : Nat → Int32) (k2 : Nat) : Nat → (Nat → Int32) → Bool
  | 0, y_went_34 => (if nI x_houses < y_went_34 k2 then true else (if f_X9_has (f_X9_goesTo x_houses now home path k2) (y_went_34 k2 - 1) = true then true else false))
  | r34 + 1, y_went_34 => (if nI x_houses < y_went_34 k2 then true else (if f_X9_has (f_X9_goesTo x_houses now home path k2) (y_went_34 k2 - 1) = true then true else f_X9_nextWays_L34_E x_houses now home path k2 r34 (upd y_went_34 k2 (y_went_34 k2 + 1))))
def f_X9_nextWays_L2 (x_houses : Nat) (now : Nat → Int32) (home : Nat → Int32) (path : Nat → Int32) (p1 : Int32) : Nat → Nat → (Nat → Int32) → Bool × (Nat → Int32)
  | 0, k2, y_went_2 => (false, y_went_2)
  | r2 + 1, k2, y_went_2 => (if f_X9_has p1 (nI k2) = true then (if nI x_houses < (f_X9_nextWays_L34 x_houses now home path k2 fuelN (upd y_went_2 k2 (y_went_2 k2 + 1))) k2 then f_X9_nextWays_L2 x_houses now home path p1 r2 (k2 + 1) (upd (f_X9_nextWays_L34 x_houses now home path k2 fuelN (upd y_went_2 k2 (y_went_2 k2 + 1))) k2 0) else (true, (f_X9_nextWays_L34 x_houses now home path k2 fuelN (upd y_went_2 k2 (y_went_2 k2 + 1))))) else f_X9_nextWays_L2 x_houses now home path p1 r2 (k2 + 1) y_went_2)
def f_X9_nextWays (x_houses : Nat) (x_people : Nat) (now : Nat → Int32) (home : Nat → Int32) (path : Nat → Int32) (went : Nat → Int32) (p1 : Int32) : Bool × (Nat → Int32) := f_X9_nextWays_L2 x_houses now home path p1 x_people 0 went
theorem nw34_E {H : Nat} {now home path : Nat → Int32} {p : Nat} (hH : H ≤ 4) : ∀ (n : Nat) (w : Nat → Int32) (v : Nat), w p = nI v → H + 1 ≤ v + n → v < 100 → f_X9_nextWays_L34_E H now home path p n w = true := by
  intro n
  induction n with
  | zero =>
    intro w v h1 h2 h3
    have : nI H < w p := by rw [h1]; exact (nI_lt_ (by omega) (by omega)).mpr (by omega)
    simp only [f_X9_nextWays_L34_E, if_pos this]
  | succ n ih =>
    intro w v h1 h2 h3
    by_cases hc : nI H < w p
    · simp only [f_X9_nextWays_L34_E, if_pos hc]
    · have hv : v ≤ H := by
        rw [h1] at hc
        exact Nat.le_of_not_lt fun z => hc ((nI_lt_ (by omega) (by omega)).mpr z)
      have := ih (upd w p (w p + 1)) (v + 1) (by simp [upd, h1]; exact nI_1 v) (by omega) (by omega)
      simp only [f_X9_nextWays_L34_E, if_neg hc]
      split
      · rfl
      · exact this
theorem nw34_o {H : Nat} {now home path : Nat → Int32} {p q : Nat} (hq : q ≠ p) : ∀ (n : Nat) (w : Nat → Int32), f_X9_nextWays_L34 H now home path p n w q = w q := by
  intro n
  induction n with
  | zero => intro w; rfl
  | succ n ih =>
    intro w
    simp only [f_X9_nextWays_L34]
    repeat' split
    all_goals first | rfl | (rw [ih]; simp [upd, hq])
theorem nw_E {H : Nat} {now home path : Nat → Int32} {p : Nat} {w : Nat → Int32} (hH : H ≤ 4) (hw : wOK w) (hp : p < 6) : f_X9_nextWays_L34_E H now home path p fuelN (upd w p (w p + 1)) = true := by
  obtain ⟨v, hv, h1⟩ := hw p hp
  exact nw34_E hH fuelN _ (v + 1) (by simp [upd, h1]; exact nI_1 v) (by show _ ≤ _ + 8; omega) (by omega)
theorem nw_K {H : Nat} {now home path : Nat → Int32} {p : Nat} {w : Nat → Int32} (hw : wOK w) : wOK (upd (f_X9_nextWays_L34 H now home path p fuelN (upd w p (w p + 1))) p 0) := by
  intro q hq
  by_cases h : q = p
  · exact ⟨0, by omega, by simp [upd, h]; rfl⟩
  · obtain ⟨v, hv, h1⟩ := hw q hq
    exact ⟨v, hv, by simp only [upd, if_neg h]; rw [nw34_o h]; simp [upd, h, h1]⟩

set_option maxHeartbeats 4000000 in
set_option maxRecDepth 100000 in
theorem c_X9_nextWays (g : GT) (w0 : Wd) (B : Nat → Nat) (hB : ∀ i j, i < 60 → j < 60 → B i = B j → i = j) (x_thrown : Int32) (x_houses : Nat) (x_people : Nat) (x_paths : Nat) (x_acts : Nat) (x_size : Nat) (x_at : Nat) (x_readHouses : Nat) (x_readPeople : Nat) (x_readPaths : Nat) (x_sights : Nat) (x_drawn : Int64) (now : Nat → Int32) (home : Nat → Int32) (path : Nat → Int32) (went : Nat → Int32) (p1 : Int32) (hxp : x_people ≤ 6) (hxh : x_houses ≤ 4) (hom : ∀ q, q < 6 → home q = nI (tn (home q)) ∧ tn (home q) < 4) (hwk : wOK went) (h_m : w0 (B 0) = some (.inr (9, cM B (x_thrown, x_houses, x_people, x_paths, x_acts, x_size, x_at, x_readHouses, x_readPeople, x_readPaths, x_sights, x_drawn)))) (h_now : w0 (B 7) = some (.inl (g.2.2.1 0, 43, .inl now))) (h_home : w0 (B 5) = some (.inl (g.2.2.1 0, 6, .inl home))) (h_path : w0 (B 4) = some (.inl (g.2.2.1 0, 16, .inl path))) (h_went : w0 (B 24) = some (.inl (g.2.2.1 0, 6, .inl went))) : CT g yX9_nextWays cX9_nextWays 4 (some .boolean) 2 45 0 0 w0 [.ref (B 0), .int p1] (fun r w2 => r = some (.int (bI ((f_X9_nextWays x_houses x_people now home path went p1).1))) ∧ w2 (B 24) = some (.inl (g.2.2.1 0, 6, .inl ((f_X9_nextWays x_houses x_people now home path went p1).2))) ∧ wE (fun q => q = (B 24)) w0 w2) := by
  refine CT.of (own := RX9) (by decide +kernel) rfl (Nat.le_of_ble_eq_true rfl) (fun X hC hR hI => ?_)
  show V g X 4 w0 0 0 0 [(0, .ref (B 0)), (1, .int p1)] []
  have hE : wE (fun q => q = (B 24)) w0 w0 := wE.refl
  refine vv_iconst (v := 0) hC dX9_nextWays_0 (by decide) ?_
  refine vv_istore_n (lv2 := [(2, .int 0), (0, .ref (B 0)), (1, .int p1)]) hC dX9_nextWays_1 rfl (by decide) rfl ?_
  have hL15 : ∀ (r2 k2 : Nat) (y_went_2 : Nat → Int32) (w1 : Wd), k2 + r2 = x_people → wOK y_went_2 → (f_X9_nextWays x_houses x_people now home path went p1) = f_X9_nextWays_L2 x_houses now home path p1 r2 k2 y_went_2 → w1 (B 0) = some (.inr (9, cM B (x_thrown, x_houses, x_people, x_paths, x_acts, x_size, x_at, x_readHouses, x_readPeople, x_readPaths, x_sights, x_drawn))) → w1 (B 7) = some (.inl (g.2.2.1 0, 43, .inl now)) → w1 (B 5) = some (.inl (g.2.2.1 0, 6, .inl home)) → w1 (B 4) = some (.inl (g.2.2.1 0, 16, .inl path)) → w1 (B 24) = some (.inl (g.2.2.1 0, 6, .inl y_went_2)) → wE (fun q => q = (B 24)) w0 w1 → V g X 4 w1 0 0 2 [(0, .ref (B 0)), (1, .int p1), (2, .int (nI k2))] [] := by
    intro r2
    induction r2 with
    | zero =>
      intro k2 y_went_2 w1 hb hw ho h_m h_now h_home h_path h_went hE 
      refine vv_iload_n hC 2 dX9_nextWays_2 rfl rfl ?_
      refine vv_aload_n hC 0 dX9_nextWays_3 rfl rfl ?_
      refine vv_get (v := .int (nI x_people)) hC fl_X9_80 dX9_nextWays_4 h_m rfl ?_
      refine vv_icmp_ge hC 103 dX9_nextWays_7 (by decide) (fun c => ?_) (fun c => False.elim (c ((nI_le_ (a := x_people) (b := k2) (by omega) (by omega)).mpr (by omega))))
      refine vv_iconst (v := 0) hC dX9_nextWays_103 (by decide) ?_
      have hf : (f_X9_nextWays x_houses x_people now home path went p1) = (false, y_went_2) := ho.trans (by first | (simp only [f_X9_nextWays_L2]; done) | rfl | (simp only [f_X9_nextWays_L2]; rfl))
      refine vv_zret hC hR rfl (by decide) dX9_nextWays_104 (by omega) (by omega) ?_
      rw [hf]
      try dsimp only
      exact ⟨rfl, h_went, hE⟩
    | succ r2 ih =>
      intro k2 y_went_2 w1 hb hw ho h_m h_now h_home h_path h_went hE 
      refine vv_iload_n hC 2 dX9_nextWays_2 rfl rfl ?_
      refine vv_aload_n hC 0 dX9_nextWays_3 rfl rfl ?_
      refine vv_get (v := .int (nI x_people)) hC fl_X9_80 dX9_nextWays_4 h_m rfl ?_
      refine vv_icmp_ge hC 103 dX9_nextWays_7 (by decide) (fun c => absurd ((nI_le_ (a := x_people) (b := k2) (by omega) (by omega)).mp c) (by first | omega | decide)) (fun c => ?_)
      refine vv_iload_n hC 1 dX9_nextWays_10 rfl rfl ?_
      refine vv_iload_n hC 2 dX9_nextWays_11 rfl rfl ?_
      refine vv_callS hC dX9_nextWays_12 md_X9_has lk_m_X9_127 lk_t_X9_has (As := [.int p1, .int (nI k2)]) (rest := []) (c_X9_has g w1 p1 (nI k2)) rfl rfl (Nat.le_of_ble_eq_true rfl) ⟨by decide, by decide, by decide, by decide⟩ (fun r w9 hq => ?_)
      obtain ⟨rfl, rfl⟩ := hq
      show V g X 4 w1 0 0 15 [(0, .ref (B 0)), (1, .int p1), (2, .int (nI k2))] [.int (bI (f_X9_has p1 (nI k2)))]
      refine vv_if_eq hC 97 dX9_nextWays_15 (by decide) (fun c2 => ?_) (fun c2 => ?_)
      · have c2 : ¬ (f_X9_has p1 (nI k2) = true) := bI_f c2
        refine vv_iinc (lv2 := [(2, .int (nI (k2 + 1))), (0, .ref (B 0)), (1, .int p1)]) hC 2 dX9_nextWays_97 rfl (nI_add k2 1) (by decide) rfl ?_
        refine vv_goto hC 2 dX9_nextWays_100 (by decide) ?_
        refine vv_lv [1, 2, 0] rfl ?_
        exact ih (k2 + 1) y_went_2 w1 (by omega) (by first | exact hw | exact nw_K hw) (ho.trans (by first | (simp only [f_X9_nextWays_L2, if_neg c2]; done) | rfl | (simp only [f_X9_nextWays_L2, if_neg c2]; rfl))) h_m h_now h_home h_path h_went hE
      · have c2 : f_X9_has p1 (nI k2) = true := bI_t c2
        refine vv_aload_n hC 0 dX9_nextWays_18 rfl rfl ?_
        refine vv_iload_n hC 2 dX9_nextWays_19 rfl rfl ?_
        refine vv_callV hC dX9_nextWays_20 md_X9_goesTo lk_m_X9_174 lk_i_X9_goesTo lk_s_X9_goesTo h_m rfl (As := [.int (nI k2)]) (rest := []) (c_X9_goesTo g w1 B hB x_thrown x_houses x_people x_paths x_acts x_size x_at x_readHouses x_readPeople x_readPaths x_sights x_drawn now home path k2 (by omega) (by omega) (hom) h_m h_now h_home h_path) rfl rfl (Nat.le_of_ble_eq_true rfl) ⟨by decide, by decide, by decide, by decide⟩ (fun r w9 hq => ?_)
        obtain ⟨rfl, rfl⟩ := hq
        show V g X 4 w1 0 0 23 [(0, .ref (B 0)), (1, .int p1), (2, .int (nI k2))] [.int (f_X9_goesTo x_houses now home path k2)]
        refine vv_istore_n (lv2 := [(3, .int (f_X9_goesTo x_houses now home path k2)), (0, .ref (B 0)), (1, .int p1), (2, .int (nI k2))]) hC dX9_nextWays_23 rfl (by decide) rfl ?_
        refine vv_aload_n hC 1 dX9_nextWays_24 rfl rfl ?_
        refine vv_get (v := .ref (B 24)) hC fl_X9_50 dX9_nextWays_25 h_m rfl ?_
        refine vv_iload_n hC 3 dX9_nextWays_28 rfl rfl ?_
        refine vv_dup2_11 hC dX9_nextWays_29 rfl rfl ?_
        refine vv_ialdn (t := k2) hC dX9_nextWays_30 h_went (by omega) (by decide) ?_
        refine vv_iconst (v := 1) hC dX9_nextWays_31 (by decide) ?_
        refine vv_iadd hC dX9_nextWays_32 ?_
        refine vv_iastn (t := k2) hC dX9_nextWays_33 h_went (by omega) (by decide) (fun w3 t1 hs => ?_)
        have t1 : w3 (B 24) = some (.inl (g.2.2.1 0, 6, .inl (upd y_went_2 k2 (y_went_2 k2 + 1)))) := t1
        have h_m := hs _ _ (fw_oa h_m h_went) h_m
        have h_now := hs _ _ (fw_inj hB (by decide) (by decide) (by decide)) h_now
        have h_home := hs _ _ (fw_inj hB (by decide) (by decide) (by decide)) h_home
        have h_path := hs _ _ (fw_inj hB (by decide) (by decide) (by decide)) h_path
        have h_went := t1
        have hE := hE.trans (hs.mono (fun _ z => z))
        have hL12 : ∀ (r34 : Nat) (y_went_34 : Nat → Int32) (w4 : Wd) (out : (Nat → Int32)), f_X9_nextWays_L34_E x_houses now home path k2 r34 y_went_34 = true → out = f_X9_nextWays_L34 x_houses now home path k2 r34 y_went_34 → w4 (B 0) = some (.inr (9, cM B (x_thrown, x_houses, x_people, x_paths, x_acts, x_size, x_at, x_readHouses, x_readPeople, x_readPaths, x_sights, x_drawn))) → w4 (B 7) = some (.inl (g.2.2.1 0, 43, .inl now)) → w4 (B 5) = some (.inl (g.2.2.1 0, 6, .inl home)) → w4 (B 4) = some (.inl (g.2.2.1 0, 16, .inl path)) → w4 (B 24) = some (.inl (g.2.2.1 0, 6, .inl y_went_34)) → wE (fun q => q = (B 24)) w0 w4 → (∀ w11 : Wd, w11 (B 0) = some (.inr (9, cM B (x_thrown, x_houses, x_people, x_paths, x_acts, x_size, x_at, x_readHouses, x_readPeople, x_readPaths, x_sights, x_drawn))) → w11 (B 7) = some (.inl (g.2.2.1 0, 43, .inl now)) → w11 (B 5) = some (.inl (g.2.2.1 0, 6, .inl home)) → w11 (B 4) = some (.inl (g.2.2.1 0, 16, .inl path)) → w11 (B 24) = some (.inl (g.2.2.1 0, 6, .inl out)) → wE (fun q => q = (B 24)) w0 w11 → V g X 4 w11 0 0 75 [(0, .ref (B 0)), (1, .int p1), (2, .int (nI k2)), (3, .int (f_X9_goesTo x_houses now home path k2))] []) → V g X 4 w4 0 0 34 [(0, .ref (B 0)), (1, .int p1), (2, .int (nI k2)), (3, .int (f_X9_goesTo x_houses now home path k2))] [] := by
          intro r34
          induction r34 with
          | zero =>
            intro y_went_34 w4 out he ho h_m h_now h_home h_path h_went hE hk
            refine vv_aload_n hC 0 dX9_nextWays_34 rfl rfl ?_
            refine vv_get (v := .ref (B 24)) hC fl_X9_50 dX9_nextWays_35 h_m rfl ?_
            refine vv_iload_n hC 2 dX9_nextWays_38 rfl rfl ?_
            refine vv_ialdn (t := k2) hC dX9_nextWays_39 h_went (by omega) (by decide) ?_
            refine vv_aload_n hC 0 dX9_nextWays_40 rfl rfl ?_
            refine vv_get (v := .int (nI x_houses)) hC fl_X9_73 dX9_nextWays_41 h_m rfl ?_
            refine vv_icmp_gt hC 75 dX9_nextWays_44 (by decide) (fun c5 => ?_) (fun c5 => ?_)
            · have c5 : nI x_houses < y_went_34 k2 := c5
              have ho := ho.trans (by first | (simp only [f_X9_nextWays_L34, if_pos c5]; done) | rfl | (simp only [f_X9_nextWays_L34, if_pos c5]; rfl) : _ = y_went_34)
              subst ho
              exact hk w4 h_m h_now h_home h_path h_went hE
            · have c5 : ¬ (nI x_houses < y_went_34 k2) := c5
              refine vv_iload_n hC 3 dX9_nextWays_47 rfl rfl ?_
              refine vv_aload_n hC 0 dX9_nextWays_48 rfl rfl ?_
              refine vv_get (v := .ref (B 24)) hC fl_X9_50 dX9_nextWays_49 h_m rfl ?_
              refine vv_iload_n hC 2 dX9_nextWays_52 rfl rfl ?_
              refine vv_ialdn (t := k2) hC dX9_nextWays_53 h_went (by omega) (by decide) ?_
              refine vv_iconst (v := 1) hC dX9_nextWays_54 (by decide) ?_
              refine vv_isub hC dX9_nextWays_55 ?_
              refine vv_callS hC dX9_nextWays_56 md_X9_has lk_m_X9_127 lk_t_X9_has (As := [.int (f_X9_goesTo x_houses now home path k2), .int (y_went_34 k2 - 1)]) (rest := []) (c_X9_has g w4 (f_X9_goesTo x_houses now home path k2) (y_went_34 k2 - 1)) rfl rfl (Nat.le_of_ble_eq_true rfl) ⟨by decide, by decide, by decide, by decide⟩ (fun r w9 hq => ?_)
              obtain ⟨rfl, rfl⟩ := hq
              show V g X 4 w4 0 0 59 [(0, .ref (B 0)), (1, .int p1), (2, .int (nI k2)), (3, .int (f_X9_goesTo x_houses now home path k2))] [.int (bI (f_X9_has (f_X9_goesTo x_houses now home path k2) (y_went_34 k2 - 1)))]
              refine vv_if_ne hC 75 dX9_nextWays_59 (by decide) (fun c6 => ?_) (fun c6 => ?_)
              · have c6 : f_X9_has (f_X9_goesTo x_houses now home path k2) (y_went_34 k2 - 1) = true := bI_t c6
                have ho := ho.trans (by first | (simp only [f_X9_nextWays_L34, if_neg c5, if_pos c6]; done) | rfl | (simp only [f_X9_nextWays_L34, if_neg c5, if_pos c6]; rfl) : _ = y_went_34)
                subst ho
                exact hk w4 h_m h_now h_home h_path h_went hE
              · have c6 : ¬ (f_X9_has (f_X9_goesTo x_houses now home path k2) (y_went_34 k2 - 1) = true) := bI_f c6
                refine vv_aload_n hC 0 dX9_nextWays_62 rfl rfl ?_
                refine vv_get (v := .ref (B 24)) hC fl_X9_50 dX9_nextWays_63 h_m rfl ?_
                refine vv_iload_n hC 2 dX9_nextWays_66 rfl rfl ?_
                refine vv_dup2_11 hC dX9_nextWays_67 rfl rfl ?_
                refine vv_ialdn (t := k2) hC dX9_nextWays_68 h_went (by omega) (by decide) ?_
                refine vv_iconst (v := 1) hC dX9_nextWays_69 (by decide) ?_
                refine vv_iadd hC dX9_nextWays_70 ?_
                refine vv_iastn (t := k2) hC dX9_nextWays_71 h_went (by omega) (by decide) (fun w7 t1 hs => ?_)
                have t1 : w7 (B 24) = some (.inl (g.2.2.1 0, 6, .inl (upd y_went_34 k2 (y_went_34 k2 + 1)))) := t1
                have h_m := hs _ _ (fw_oa h_m h_went) h_m
                have h_now := hs _ _ (fw_inj hB (by decide) (by decide) (by decide)) h_now
                have h_home := hs _ _ (fw_inj hB (by decide) (by decide) (by decide)) h_home
                have h_path := hs _ _ (fw_inj hB (by decide) (by decide) (by decide)) h_path
                have h_went := t1
                have hE := hE.trans (hs.mono (fun _ z => z))
                refine vv_goto hC 34 dX9_nextWays_72 (by decide) ?_
                exact absurd (he.symm.trans (by simp only [f_X9_nextWays_L34_E, if_neg c5, if_neg c6] : f_X9_nextWays_L34_E x_houses now home path k2 0 y_went_34 = false)) (by decide)
          | succ r34 ih =>
            intro y_went_34 w4 out he ho h_m h_now h_home h_path h_went hE hk
            refine vv_aload_n hC 0 dX9_nextWays_34 rfl rfl ?_
            refine vv_get (v := .ref (B 24)) hC fl_X9_50 dX9_nextWays_35 h_m rfl ?_
            refine vv_iload_n hC 2 dX9_nextWays_38 rfl rfl ?_
            refine vv_ialdn (t := k2) hC dX9_nextWays_39 h_went (by omega) (by decide) ?_
            refine vv_aload_n hC 0 dX9_nextWays_40 rfl rfl ?_
            refine vv_get (v := .int (nI x_houses)) hC fl_X9_73 dX9_nextWays_41 h_m rfl ?_
            refine vv_icmp_gt hC 75 dX9_nextWays_44 (by decide) (fun c8 => ?_) (fun c8 => ?_)
            · have c8 : nI x_houses < y_went_34 k2 := c8
              have ho := ho.trans (by first | (simp only [f_X9_nextWays_L34, if_pos c8]; done) | rfl | (simp only [f_X9_nextWays_L34, if_pos c8]; rfl) : _ = y_went_34)
              subst ho
              exact hk w4 h_m h_now h_home h_path h_went hE
            · have c8 : ¬ (nI x_houses < y_went_34 k2) := c8
              refine vv_iload_n hC 3 dX9_nextWays_47 rfl rfl ?_
              refine vv_aload_n hC 0 dX9_nextWays_48 rfl rfl ?_
              refine vv_get (v := .ref (B 24)) hC fl_X9_50 dX9_nextWays_49 h_m rfl ?_
              refine vv_iload_n hC 2 dX9_nextWays_52 rfl rfl ?_
              refine vv_ialdn (t := k2) hC dX9_nextWays_53 h_went (by omega) (by decide) ?_
              refine vv_iconst (v := 1) hC dX9_nextWays_54 (by decide) ?_
              refine vv_isub hC dX9_nextWays_55 ?_
              refine vv_callS hC dX9_nextWays_56 md_X9_has lk_m_X9_127 lk_t_X9_has (As := [.int (f_X9_goesTo x_houses now home path k2), .int (y_went_34 k2 - 1)]) (rest := []) (c_X9_has g w4 (f_X9_goesTo x_houses now home path k2) (y_went_34 k2 - 1)) rfl rfl (Nat.le_of_ble_eq_true rfl) ⟨by decide, by decide, by decide, by decide⟩ (fun r w9 hq => ?_)
              obtain ⟨rfl, rfl⟩ := hq
              show V g X 4 w4 0 0 59 [(0, .ref (B 0)), (1, .int p1), (2, .int (nI k2)), (3, .int (f_X9_goesTo x_houses now home path k2))] [.int (bI (f_X9_has (f_X9_goesTo x_houses now home path k2) (y_went_34 k2 - 1)))]
              refine vv_if_ne hC 75 dX9_nextWays_59 (by decide) (fun c9 => ?_) (fun c9 => ?_)
              · have c9 : f_X9_has (f_X9_goesTo x_houses now home path k2) (y_went_34 k2 - 1) = true := bI_t c9
                have ho := ho.trans (by first | (simp only [f_X9_nextWays_L34, if_neg c8, if_pos c9]; done) | rfl | (simp only [f_X9_nextWays_L34, if_neg c8, if_pos c9]; rfl) : _ = y_went_34)
                subst ho
                exact hk w4 h_m h_now h_home h_path h_went hE
              · have c9 : ¬ (f_X9_has (f_X9_goesTo x_houses now home path k2) (y_went_34 k2 - 1) = true) := bI_f c9
                refine vv_aload_n hC 0 dX9_nextWays_62 rfl rfl ?_
                refine vv_get (v := .ref (B 24)) hC fl_X9_50 dX9_nextWays_63 h_m rfl ?_
                refine vv_iload_n hC 2 dX9_nextWays_66 rfl rfl ?_
                refine vv_dup2_11 hC dX9_nextWays_67 rfl rfl ?_
                refine vv_ialdn (t := k2) hC dX9_nextWays_68 h_went (by omega) (by decide) ?_
                refine vv_iconst (v := 1) hC dX9_nextWays_69 (by decide) ?_
                refine vv_iadd hC dX9_nextWays_70 ?_
                refine vv_iastn (t := k2) hC dX9_nextWays_71 h_went (by omega) (by decide) (fun w10 t1 hs => ?_)
                have t1 : w10 (B 24) = some (.inl (g.2.2.1 0, 6, .inl (upd y_went_34 k2 (y_went_34 k2 + 1)))) := t1
                have h_m := hs _ _ (fw_oa h_m h_went) h_m
                have h_now := hs _ _ (fw_inj hB (by decide) (by decide) (by decide)) h_now
                have h_home := hs _ _ (fw_inj hB (by decide) (by decide) (by decide)) h_home
                have h_path := hs _ _ (fw_inj hB (by decide) (by decide) (by decide)) h_path
                have h_went := t1
                have hE := hE.trans (hs.mono (fun _ z => z))
                refine vv_goto hC 34 dX9_nextWays_72 (by decide) ?_
                exact ih (upd y_went_34 k2 (y_went_34 k2 + 1)) w10 out (Eq.trans (Eq.symm (by first | (simp only [f_X9_nextWays_L34_E, if_neg c8, if_neg c9]; done) | rfl : f_X9_nextWays_L34_E x_houses now home path k2 (r34 + 1) y_went_34 = f_X9_nextWays_L34_E x_houses now home path k2 r34 (upd y_went_34 k2 (y_went_34 k2 + 1)))) he) (ho.trans (by first | (simp only [f_X9_nextWays_L34, if_neg c8, if_neg c9]; done) | rfl | (simp only [f_X9_nextWays_L34, if_neg c8, if_neg c9]; rfl))) h_m h_now h_home h_path h_went hE hk
        refine vv_lv [1, 2, 3, 0] rfl ?_
        refine hL12 fuelN (upd y_went_2 k2 (y_went_2 k2 + 1)) w3 (f_X9_nextWays_L34 x_houses now home path k2 fuelN (upd y_went_2 k2 (y_went_2 k2 + 1))) (nw_E hxh hw (by omega)) rfl h_m h_now h_home h_path h_went hE ?_
        intro w11 h_m h_now h_home h_path h_went hE
        refine vv_aload_n hC 0 dX9_nextWays_75 rfl rfl ?_
        refine vv_get (v := .ref (B 24)) hC fl_X9_50 dX9_nextWays_76 h_m rfl ?_
        refine vv_iload_n hC 2 dX9_nextWays_79 rfl rfl ?_
        refine vv_ialdn (t := k2) hC dX9_nextWays_80 h_went (by omega) (by decide) ?_
        refine vv_aload_n hC 0 dX9_nextWays_81 rfl rfl ?_
        refine vv_get (v := .int (nI x_houses)) hC fl_X9_73 dX9_nextWays_82 h_m rfl ?_
        refine vv_icmp_gt hC 90 dX9_nextWays_85 (by decide) (fun c13 => ?_) (fun c13 => ?_)
        · have c13 : nI x_houses < (f_X9_nextWays_L34 x_houses now home path k2 fuelN (upd y_went_2 k2 (y_went_2 k2 + 1))) k2 := c13
          refine vv_aload_n hC 0 dX9_nextWays_90 rfl rfl ?_
          refine vv_get (v := .ref (B 24)) hC fl_X9_50 dX9_nextWays_91 h_m rfl ?_
          refine vv_iload_n hC 2 dX9_nextWays_94 rfl rfl ?_
          refine vv_iconst (v := 0) hC dX9_nextWays_95 (by decide) ?_
          refine vv_iastn (t := k2) hC dX9_nextWays_96 h_went (by omega) (by decide) (fun w14 t1 hs => ?_)
          have t1 : w14 (B 24) = some (.inl (g.2.2.1 0, 6, .inl (upd (f_X9_nextWays_L34 x_houses now home path k2 fuelN (upd y_went_2 k2 (y_went_2 k2 + 1))) k2 0))) := t1
          have h_m := hs _ _ (fw_oa h_m h_went) h_m
          have h_now := hs _ _ (fw_inj hB (by decide) (by decide) (by decide)) h_now
          have h_home := hs _ _ (fw_inj hB (by decide) (by decide) (by decide)) h_home
          have h_path := hs _ _ (fw_inj hB (by decide) (by decide) (by decide)) h_path
          have h_went := t1
          have hE := hE.trans (hs.mono (fun _ z => z))
          refine vv_iinc (lv2 := [(2, .int (nI (k2 + 1))), (0, .ref (B 0)), (1, .int p1), (3, .int (f_X9_goesTo x_houses now home path k2))]) hC 2 dX9_nextWays_97 rfl (nI_add k2 1) (by decide) rfl ?_
          refine vv_goto hC 2 dX9_nextWays_100 (by decide) ?_
          refine vv_lv [1, 2, 0] rfl ?_
          exact ih (k2 + 1) (upd (f_X9_nextWays_L34 x_houses now home path k2 fuelN (upd y_went_2 k2 (y_went_2 k2 + 1))) k2 0) w14 (by omega) (by first | exact hw | exact nw_K hw) (ho.trans (by first | (simp only [f_X9_nextWays_L2, if_pos c2, if_pos c13]; done) | rfl | (simp only [f_X9_nextWays_L2, if_pos c2, if_pos c13]; rfl))) h_m h_now h_home h_path h_went hE
        · have c13 : ¬ (nI x_houses < (f_X9_nextWays_L34 x_houses now home path k2 fuelN (upd y_went_2 k2 (y_went_2 k2 + 1))) k2) := c13
          refine vv_iconst (v := 1) hC dX9_nextWays_88 (by decide) ?_
          have hf : (f_X9_nextWays x_houses x_people now home path went p1) = (true, (f_X9_nextWays_L34 x_houses now home path k2 fuelN (upd y_went_2 k2 (y_went_2 k2 + 1)))) := ho.trans (by first | (simp only [f_X9_nextWays_L2, if_pos c2, if_neg c13]; done) | rfl | (simp only [f_X9_nextWays_L2, if_pos c2, if_neg c13]; rfl))
          refine vv_zret hC hR rfl (by decide) dX9_nextWays_89 (by omega) (by omega) ?_
          rw [hf]
          try dsimp only
          exact ⟨rfl, h_went, hE⟩
  refine vv_lv [1, 2, 0] rfl ?_
  exact hL15 x_people 0 went w0 (by omega) (hwk) (by first | (simp only [f_X9_nextWays]; done) | rfl | (simp only [f_X9_nextWays]; rfl)) h_m h_now h_home h_path h_went hE
