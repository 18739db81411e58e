/-- the nights of the pool behind step s -/
def Pool (A : Nat → Nat) (w : Wd) (s : Nat) : Prop := ∀ j, s < j → j < 16 → ∃ n, w (A (40 + j)) = some (.inr (2, cN n))
def dM (A : Nat → Nat) (s : Nat) : Nat → Prop := fun q => ∃ j, s < j ∧ j < 16 ∧ q = A (40 + j)
theorem Pool.cons {A : Nat → Nat} {w : Wd} {s : Nat} {n : TN} (h : w (A (40 + (s + 1))) = some (.inr (2, cN n))) (hp : Pool A w (s + 1)) : Pool A w s := by
  intro j h1 h2
  by_cases e : j = s + 1
  · subst e; exact ⟨n, h⟩
  · exact hp j (by omega) h2
theorem Pool.tail {A : Nat → Nat} {w : Wd} {s : Nat} (hp : Pool A w s) : Pool A w (s + 1) := fun j h1 h2 => hp j (by omega) h2
theorem Pool.out {A : Nat → Nat} (hA : ∀ i j, i < 60 → j < 60 → A i = A j → i = j) {w w1 : Wd} {s k : Nat} (hs : wE (fun q => q = A (40 + k)) w w1) (hk : k ≤ s) (hp : Pool A w s) : Pool A w1 s := by
  intro j h1 h2
  obtain ⟨n, hn⟩ := hp j h1 h2
  exact ⟨n, hs _ _ (fun e => by have := hA _ _ (by omega) (by omega) e; omega) hn⟩
theorem Pool.far {A : Nat → Nat} {w w1 : Wd} {s : Nat} {M : Nat → Prop} (hs : wE M w w1) (hM : ∀ j, s < j → j < 16 → ¬ M (A (40 + j))) (hp : Pool A w s) : Pool A w1 s := by
  intro j h1 h2
  obtain ⟨n, hn⟩ := hp j h1 h2
  exact ⟨n, hs _ _ (hM j h1 h2) hn⟩
theorem dM_oo {A : Nat → Nat} {w : Wd} {s a i : Nat} {fs : List Value} (hp : Pool A w s) (h : w a = some (.inr (i, fs))) (hi : i ≠ 2) : ¬ dM A s a := by
  rintro ⟨j, h1, h2, rfl⟩
  obtain ⟨n, hn⟩ := hp j h1 h2
  exact fw_oo h hn hi rfl
theorem dM_ao {A : Nat → Nat} {w : Wd} {s a : Nat} {y : ClassId × vp_A} (hp : Pool A w s) (h : w a = some (.inl y)) : ¬ dM A s a := by
  rintro ⟨j, h1, h2, rfl⟩
  obtain ⟨n, hn⟩ := hp j h1 h2
  exact fw_ao h hn rfl
theorem dM_k {A : Nat → Nat} (hA : ∀ i j, i < 60 → j < 60 → A i = A j → i = j) {s k : Nat} (hk : k ≤ s) (h16 : k < 16) : ¬ dM A s (A (40 + k)) := by
  rintro ⟨j, h1, h2, e⟩
  have := hA _ _ (by omega) (by omega) e
  omega
theorem dM_up {A : Nat → Nat} {s : Nat} {q : Nat} (h : dM A (s + 1) q) : dM A s q := by
  obtain ⟨j, h1, h2, e⟩ := h
  exact ⟨j, by omega, h2, e⟩
theorem dM_hd {A : Nat → Nat} {s : Nat} (h : s + 1 < 16) {q : Nat} (e : q = A (40 + (s + 1))) : dM A s q := ⟨s + 1, by omega, h, e⟩
def f_sh_L (goals each : Int32) (nx : Nat → Int64) : Nat → Nat → Int64 → Int64
  | 0, _, s => s
  | r + 1, h, s => f_sh_L goals each nx r (h + 1) (if f_X8_has goals (nI h) = true then s + each.toInt64 * nx h else s)
def f_sh_each (all : Int32) : Int32 := if all = 0 then 0 else 6 / all
def f_sh_goals (v : TVi) (person : Int32) (may : Int32) (nn : Nat) : Int32 := if nn = 1 then may &&& f_X8_bit (f_X8_cell (gVi_homes v) person) else may
def f_sh_still (each goals : Int32) : Int32 := 6 - each * f_J6_bitCount_0f7a4 goals
def f_sh (v : TVi) (person : Int32) : Nat → TN → Nat → Nat → Int64
  | 0, _, _, _ => 0
  | m + 1, here, wk, nn =>
    if f_X8_has (gN_wolves here ||| gN_bitten here) person = true then f_X8_powerOf 6 (gVi_people v * nn - wk)
    else if gVi_people v ≤ wk then (if nn ≤ 1 then 0 else f_sh v person m (f_X2_nextNight here).2 0 (nn - 1))
    else f_sh_L (f_sh_goals v person (f_X2_goals here v (nI wk)) nn) (f_sh_each (f_J6_bitCount_0f7a4 (f_X2_goals here v (nI wk))))
      (fun h => f_sh v person m (f_X2_walk here v (nI wk) (nI h)).2 (wk + 1) nn) 4 0
      (if f_sh_still (f_sh_each (f_J6_bitCount_0f7a4 (f_X2_goals here v (nI wk)))) (f_sh_goals v person (f_X2_goals here v (nI wk)) nn) = 0 then 0
       else (f_sh_still (f_sh_each (f_J6_bitCount_0f7a4 (f_X2_goals here v (nI wk)))) (f_sh_goals v person (f_X2_goals here v (nI wk)) nn)).toInt64 * f_sh v person m here (wk + 1) nn)
theorem f_sh_walk {v : TVi} {person : Int32} {m wk nn : Nat} {here : TN} (c1 : ¬ f_X8_has (gN_wolves here ||| gN_bitten here) person = true) (c2 : ¬ gVi_people v ≤ wk) : f_sh v person (m + 1) here wk nn = f_sh_L (f_sh_goals v person (f_X2_goals here v (nI wk)) nn) (f_sh_each (f_J6_bitCount_0f7a4 (f_X2_goals here v (nI wk))))
      (fun h => f_sh v person m (f_X2_walk here v (nI wk) (nI h)).2 (wk + 1) nn) 4 0
      (if f_sh_still (f_sh_each (f_J6_bitCount_0f7a4 (f_X2_goals here v (nI wk)))) (f_sh_goals v person (f_X2_goals here v (nI wk)) nn) = 0 then 0
       else (f_sh_still (f_sh_each (f_J6_bitCount_0f7a4 (f_X2_goals here v (nI wk)))) (f_sh_goals v person (f_X2_goals here v (nI wk)) nn)).toInt64 * f_sh v person m here (wk + 1) nn) := by simp only [f_sh, if_neg c1, if_neg c2]
theorem copyFrom_eq (n o : TN) : f_X2_copyFrom n o = o := rfl

/-- the contract of shares at depth m -/
def shC (g : GT) (A : Nat → Nat) (v : TVi) (a_v : Nat) (person : Int32) (steps : Nat → Option Nat) (m : Nat) : Prop := ∀ (w0 : Wd) (s wk nn : Nat) (here : TN), wk ≤ gVi_people v → 1 ≤ nn → nn ≤ 2 → 7 * nn - wk ≤ m → s + (7 * nn - wk) ≤ 14 → w0 (A 17) = some (.inr (1, cCh (A 18) a_v)) → w0 (A 18) = some (.inl (g.2.2.1 4, 16, .inr (.inr (.inr (.inr steps))))) → w0 a_v = some (.inr (7, cVi v)) → w0 (A (40 + s)) = some (.inr (2, cN here)) → Pool A w0 s →
  CT g yX1_shares cX1_shares 15 (some .long) (6 + 2 * m) (130 + 70 * m) 0 0 w0 [.ref (A 17), .int (nI s), .int (nI wk), .int (nI nn), .int person] (fun r w2 => r = some (.long (f_sh v person m here wk nn)) ∧ Pool A w2 s ∧ wE (dM A s) w0 w2)
set_option maxHeartbeats 4000000 in
set_option maxRecDepth 100000 in
theorem c_afterDawn (g : GT) (A : Nat → Nat) (hA : ∀ i j, i < 60 → j < 60 → A i = A j → i = j) (v : TVi) (hvh : gVi_houses v ≤ 4) (hvp : gVi_people v ≤ 6) (a_v : Nat) (person : Int32) (steps : Nat → Option Nat) (hst : ∀ k, k < 16 → steps k = some (A (40 + k))) (m : Nat) (IH : shC g A v a_v person steps m) (w0 : Wd) (s nn : Nat) (here : TN) (hn : 2 ≤ nn) (hn2 : nn ≤ 2) (hm : 7 * (nn - 1) ≤ m) (hs14 : s + 1 + 7 * (nn - 1) ≤ 14) (h_ch : w0 (A 17) = some (.inr (1, cCh (A 18) a_v))) (h_st : w0 (A 18) = some (.inl (g.2.2.1 4, 16, .inr (.inr (.inr (.inr steps)))))) (h_v : w0 a_v = some (.inr (7, cVi v))) (h_here : w0 (A (40 + s)) = some (.inr (2, cN here))) (h_p : Pool A w0 s) :
  CT g yX1_sharesAfterDawn cX1_sharesAfterDawn 6 (some .long) (7 + 2 * m) (164 + 70 * m) 0 0 w0 [.ref (A 17), .int (nI s), .int (nI nn), .int person] (fun r w2 => r = some (.long (f_sh v person m (f_X2_nextNight here).2 0 (nn - 1))) ∧ Pool A w2 s ∧ wE (dM A s) w0 w2) := by
  refine CT.of (own := RX1) (by decide +kernel) rfl (Nat.le_of_ble_eq_true rfl) (fun X hC hR hI => ?_)
  obtain ⟨nx, h_nx⟩ := h_p (s + 1) (by omega) (by omega)
  have h_p1 := h_p.tail
  show V g X 6 w0 0 0 0 [(0, .ref (A 17)), (1, .int (nI s)), (2, .int (nI nn)), (3, .int person)] []
  refine vv_aload_n hC 0 dX1_sharesAfterDawn_0 rfl rfl ?_
  refine vv_get (v := .ref (A 18)) hC fl_X1_11 dX1_sharesAfterDawn_1 h_ch rfl ?_
  refine vv_iload_n hC 1 dX1_sharesAfterDawn_4 rfl rfl ?_
  refine vv_callSN hC dX1_sharesAfterDawn_5 md_X8_nightAt lk_n_X1_28 lk_t_X8_nightAt (As := [.ref (A 18), .int (nI s)]) (rest := []) (c_X8_nightAt g w0 (A 18) 16 (s) steps (A (40 + (s))) (by omega) (by decide) (hst _ (by omega)) h_st) rfl rfl (Nat.le_of_ble_eq_true rfl) ⟨by dsimp only; omega, by dsimp only; omega, by dsimp only; omega, by dsimp only; omega⟩ (fun r w9 hq => ?_)
  obtain ⟨rfl, rfl⟩ := hq
  show V g X 6 w0 0 0 8 [(0, .ref (A 17)), (1, .int (nI s)), (2, .int (nI nn)), (3, .int person)] [.ref (A (40 + s))]
  refine vv_astore (lv2 := [(4, .ref (A (40 + s))), (0, .ref (A 17)), (1, .int (nI s)), (2, .int (nI nn)), (3, .int person)]) hC dX1_sharesAfterDawn_8 (by decide) rfl ?_
  refine vv_aload_n hC 1 dX1_sharesAfterDawn_10 rfl rfl ?_
  refine vv_get (v := .ref (A 18)) hC fl_X1_11 dX1_sharesAfterDawn_11 h_ch rfl ?_
  refine vv_iload_n hC 2 dX1_sharesAfterDawn_14 rfl rfl ?_
  refine vv_iconst (v := 1) hC dX1_sharesAfterDawn_15 (by decide) ?_
  refine vv_iadd hC dX1_sharesAfterDawn_16 ?_
  refine vv_topi (nI (s + 1)) (nI_add s 1) ?_
  refine vv_callSN hC dX1_sharesAfterDawn_17 md_X8_nightAt lk_n_X1_28 lk_t_X8_nightAt (As := [.ref (A 18), .int (nI (s + 1))]) (rest := []) (c_X8_nightAt g w0 (A 18) 16 (s + 1) steps (A (40 + (s + 1))) (by omega) (by decide) (hst _ (by omega)) h_st) rfl rfl (Nat.le_of_ble_eq_true rfl) ⟨by dsimp only; omega, by dsimp only; omega, by dsimp only; omega, by dsimp only; omega⟩ (fun r w9 hq => ?_)
  obtain ⟨rfl, rfl⟩ := hq
  show V g X 6 w0 0 0 20 [(4, .ref (A (40 + s))), (0, .ref (A 17)), (1, .int (nI s)), (2, .int (nI nn)), (3, .int person)] [.ref (A (40 + (s + 1)))]
  refine vv_astore (lv2 := [(5, .ref (A (40 + (s + 1)))), (4, .ref (A (40 + s))), (0, .ref (A 17)), (1, .int (nI s)), (2, .int (nI nn)), (3, .int person)]) hC dX1_sharesAfterDawn_20 (by decide) rfl ?_
  refine vv_aload hC 1 dX1_sharesAfterDawn_22 rfl ?_
  refine vv_ifnull hC dX1_sharesAfterDawn_24 ?_
  refine vv_aload hC 0 dX1_sharesAfterDawn_27 rfl ?_
  refine vv_ifnonnull hC 34 dX1_sharesAfterDawn_29 (by decide) ?_
  refine vv_aload hC 0 dX1_sharesAfterDawn_34 rfl ?_
  refine vv_aload hC 1 dX1_sharesAfterDawn_36 rfl ?_
  refine vv_callV hC dX1_sharesAfterDawn_38 md_X2_copyFrom lk_m_X1_32 lk_i_X2_copyFrom lk_s_X2_copyFrom h_nx rfl (As := [.ref (A (40 + s))]) (rest := []) (c_X2_copyFrom g w0 (A (40 + (s + 1))) (A (40 + s)) nx here h_nx h_here (fw_inj hA (by omega) (by omega) (by omega))) rfl rfl (Nat.le_of_ble_eq_true rfl) ⟨by dsimp only; omega, by dsimp only; omega, by dsimp only; omega, by dsimp only; omega⟩ (fun r w9 hq => ?_)
  obtain ⟨rfl, h_nx1, hs1⟩ := hq
  obtain ⟨w1, rfl⟩ : ∃ z, z = w9 := ⟨_, rfl⟩
  have h_ch1 := hs1 _ _ (fw_oo h_ch h_nx (by decide)) h_ch
  have h_st1 := hs1 _ _ (fw_ao h_st h_nx) h_st
  have h_v1 := hs1 _ _ (fw_oo h_v h_nx (by decide)) h_v
  have h_p2 := Pool.out hA hs1 (Nat.le_refl _) h_p1
  show V g X 6 w1 0 0 41 [(5, .ref (A (40 + (s + 1)))), (4, .ref (A (40 + s))), (0, .ref (A 17)), (1, .int (nI s)), (2, .int (nI nn)), (3, .int person)] []
  refine vv_aload hC 0 dX1_sharesAfterDawn_41 rfl ?_
  refine vv_callV hC dX1_sharesAfterDawn_43 md_X2_nextNight lk_m_X1_89 lk_i_X2_nextNight lk_s_X2_nextNight h_nx1 rfl (As := []) (rest := []) (c_X2_nextNight g w1 (A (40 + (s + 1))) _ h_nx1) rfl rfl (Nat.le_of_ble_eq_true rfl) ⟨by dsimp only; omega, by dsimp only; omega, by dsimp only; omega, by dsimp only; omega⟩ (fun r w9 hq => ?_)
  obtain ⟨rfl, h_nx2, hs2⟩ := hq
  obtain ⟨w2, rfl⟩ : ∃ z, z = w9 := ⟨_, rfl⟩
  have h_ch2 := hs2 _ _ (fw_oo h_ch1 h_nx1 (by decide)) h_ch1
  have h_st2 := hs2 _ _ (fw_ao h_st1 h_nx1) h_st1
  have h_v2 := hs2 _ _ (fw_oo h_v1 h_nx1 (by decide)) h_v1
  have h_p3 := Pool.out hA hs2 (Nat.le_refl _) h_p2
  show V g X 6 w2 0 0 46 [(5, .ref (A (40 + (s + 1)))), (4, .ref (A (40 + s))), (0, .ref (A 17)), (1, .int (nI s)), (2, .int (nI nn)), (3, .int person)] [.int ((f_X2_nextNight (f_X2_copyFrom nx here)).1)]
  refine vv_pop hC dX1_sharesAfterDawn_46 rfl ?_
  refine vv_aload_n hC 2 dX1_sharesAfterDawn_47 rfl rfl ?_
  refine vv_iload_n hC 3 dX1_sharesAfterDawn_48 rfl rfl ?_
  refine vv_iconst (v := 1) hC dX1_sharesAfterDawn_49 (by decide) ?_
  refine vv_iadd hC dX1_sharesAfterDawn_50 ?_
  refine vv_topi (nI (s + 1)) (nI_add s 1) ?_
  refine vv_iconst (v := 0) hC dX1_sharesAfterDawn_51 (by decide) ?_
  refine vv_iload_n hC 4 dX1_sharesAfterDawn_52 rfl rfl ?_
  refine vv_iconst (v := 1) hC dX1_sharesAfterDawn_53 (by decide) ?_
  refine vv_isub hC dX1_sharesAfterDawn_54 ?_
  refine vv_topi (nI (nn - 1)) (pk_sub (b := 1) (by omega)) ?_
  refine vv_iload_n hC 5 dX1_sharesAfterDawn_55 rfl rfl ?_
  refine vv_callV hC dX1_sharesAfterDawn_56 md_X1_shares lk_m_X1_36 lk_i_X1_shares lk_s_X1_shares h_ch2 rfl (As := [.int (nI (s + 1)), .int (nI 0), .int (nI (nn - 1)), .int person]) (rest := []) (IH w2 (s + 1) 0 (nn - 1) (f_X2_nextNight here).2 (by omega) (by omega) (by omega) (by omega) (by omega) h_ch2 h_st2 h_v2 h_nx2 h_p3) rfl rfl (Nat.le_of_ble_eq_true rfl) ⟨by dsimp only; omega, by dsimp only; omega, by dsimp only; omega, by dsimp only; omega⟩ (fun r w9 hq => ?_)
  obtain ⟨rfl, h_p4, hs3⟩ := hq
  obtain ⟨w3, rfl⟩ : ∃ z, z = w9 := ⟨_, rfl⟩
  have h_nx3 := hs3 _ _ (dM_k hA (Nat.le_refl _) (by omega)) h_nx2
  show V g X 6 w3 0 0 59 [(5, .ref (A (40 + (s + 1)))), (4, .ref (A (40 + s))), (0, .ref (A 17)), (1, .int (nI s)), (2, .int (nI nn)), (3, .int person)] [.long (f_sh v person m (f_X2_nextNight here).2 0 (nn - 1))]
  refine vv_lret hC hR rfl dX1_sharesAfterDawn_59 (by omega) (by omega) ?_
  exact ⟨rfl, Pool.cons h_nx3 h_p4, ((hs1.mono (fun _ z => dM_hd (by omega) z)).trans (hs2.mono (fun _ z => dM_hd (by omega) z))).trans (hs3.mono (fun _ z => dM_up z))⟩
set_option maxHeartbeats 8000000 in
set_option maxRecDepth 100000 in
theorem c_shares (g : GT) (A : Nat → Nat) (hA : ∀ i j, i < 60 → j < 60 → A i = A j → i = j) (v : TVi) (hvh : gVi_houses v ≤ 4) (hvp : gVi_people v ≤ 6) (a_v : Nat) (person : Int32) (steps : Nat → Option Nat) (hst : ∀ k, k < 16 → steps k = some (A (40 + k))) : ∀ m : Nat, shC g A v a_v person steps m := by
  intro m
  induction m with
  | zero => intro w0 s wk nn here h1 h2 h3 h4; omega
  | succ m IH =>
    intro w0 s wk nn here hwk hn1 hn2 hm hs14 h_ch h_st h_v h_here h_p
    refine CT.of (own := RX1) (by decide +kernel) rfl (Nat.le_of_ble_eq_true rfl) (fun X hC hR hI => ?_)
    have hE0 : wE (dM A s) w0 w0 := wE.refl
    have h_ch0 := h_ch
    have h_st0 := h_st
    have h_v0 := h_v
    have h_here0 := h_here
    show V g X 15 w0 0 0 0 [(0, .ref (A 17)), (1, .int (nI s)), (2, .int (nI wk)), (3, .int (nI nn)), (4, .int person)] []
    refine vv_aload_n hC 0 dX1_shares_0 rfl rfl ?_
    refine vv_get (v := .ref (A 18)) hC fl_X1_11 dX1_shares_1 h_ch rfl ?_
    refine vv_iload_n hC 1 dX1_shares_4 rfl rfl ?_
    refine vv_callSN hC dX1_shares_5 md_X8_nightAt lk_n_X1_28 lk_t_X8_nightAt (As := [.ref (A 18), .int (nI s)]) (rest := []) (c_X8_nightAt g w0 (A 18) 16 (s) steps (A (40 + (s))) (by omega) (by decide) (hst _ (by omega)) h_st) rfl rfl (Nat.le_of_ble_eq_true rfl) ⟨by dsimp only; omega, by dsimp only; omega, by dsimp only; omega, by dsimp only; omega⟩ (fun r w9 hq => ?_)
    obtain ⟨rfl, rfl⟩ := hq
    show V g X 15 w0 0 0 8 [(0, .ref (A 17)), (1, .int (nI s)), (2, .int (nI wk)), (3, .int (nI nn)), (4, .int person)] [.ref (A (40 + s))]
    refine vv_astore (lv2 := [(5, .ref (A (40 + s))), (0, .ref (A 17)), (1, .int (nI s)), (2, .int (nI wk)), (3, .int (nI nn)), (4, .int person)]) hC dX1_shares_8 (by decide) rfl ?_
    refine vv_lv [1, 2, 3, 4, 5, 0] rfl ?_
    refine vv_aload hC 5 dX1_shares_10 rfl ?_
    refine vv_ifnonnull hC 17 dX1_shares_12 (by decide) ?_
    refine vv_aload hC 5 dX1_shares_17 rfl ?_
    refine vv_getN (v := .int (gN_wolves here)) hC fl_X1_40 dX1_shares_19 h_here rfl ?_
    refine vv_aload hC 5 dX1_shares_22 rfl ?_
    refine vv_getN (v := .int (gN_bitten here)) hC fl_X1_44 dX1_shares_24 h_here rfl ?_
    refine vv_ior hC dX1_shares_27 ?_
    refine vv_iload hC 4 dX1_shares_28 rfl ?_
    refine vv_callSN hC dX1_shares_30 md_X8_has lk_n_X1_47 lk_t_X8_has (As := [.int (gN_wolves here ||| gN_bitten here), .int person]) (rest := []) (c_X8_has g w0 (gN_wolves here ||| gN_bitten here) person) rfl rfl (Nat.le_of_ble_eq_true rfl) ⟨by dsimp only; omega, by dsimp only; omega, by dsimp only; omega, by dsimp only; omega⟩ (fun r w9 hq => ?_)
    obtain ⟨rfl, rfl⟩ := hq
    show V g X 15 w0 0 0 33 [(0, .ref (A 17)), (1, .int (nI s)), (2, .int (nI wk)), (3, .int (nI nn)), (4, .int person), (5, .ref (A (40 + s)))] [.int (bI (f_X8_has (gN_wolves here ||| gN_bitten here) person))]
    refine vv_if_eq hC 54 dX1_shares_33 (by decide) (fun c1 => ?_) (fun c1 => ?_)
    · have c1 : ¬ f_X8_has (gN_wolves here ||| gN_bitten here) person = true := bI_f c1
      refine vv_iload_n hC 2 dX1_shares_54 rfl rfl ?_
      refine vv_aload_n hC 0 dX1_shares_55 rfl rfl ?_
      refine vv_get (v := .ref a_v) hC fl_X1_20 dX1_shares_56 h_ch rfl ?_
      refine vv_getN (v := .int (nI (gVi_people v))) hC fl_X1_53 dX1_shares_59 h_v rfl ?_
      refine vv_icmp_lt hC 83 dX1_shares_62 (by decide) (fun c2 => ?_) (fun c2 => ?_)
      · have c2 : ¬ gVi_people v ≤ wk := Nat.not_le_of_lt ((nI_lt_ (by omega) (by omega)).mp c2)
        refine vv_aload hC 5 dX1_shares_83 rfl ?_
        refine vv_aload_n hC 0 dX1_shares_85 rfl rfl ?_
        refine vv_get (v := .ref a_v) hC fl_X1_20 dX1_shares_86 h_ch rfl ?_
        refine vv_iload_n hC 2 dX1_shares_89 rfl rfl ?_
        refine vv_callV hC dX1_shares_90 md_X2_goals lk_m_X1_64 lk_i_X2_goals lk_s_X2_goals h_here rfl (As := [.ref a_v, .int (nI wk)]) (rest := []) (c_X2_goals g w0 (A (40 + s)) a_v here v (nI wk) h_here h_v) rfl rfl (Nat.le_of_ble_eq_true rfl) ⟨by dsimp only; omega, by dsimp only; omega, by dsimp only; omega, by dsimp only; omega⟩ (fun r w9 hq => ?_)
        obtain ⟨rfl, rfl⟩ := hq
        show V g X 15 w0 0 0 93 [(0, .ref (A 17)), (1, .int (nI s)), (2, .int (nI wk)), (3, .int (nI nn)), (4, .int person), (5, .ref (A (40 + s)))] [.int (f_X2_goals here v (nI wk))]
        have hfs := f_sh_walk (v := v) (m := m) (nn := nn) c1 c2
        generalize hmay : f_X2_goals here v (nI wk) = may at hfs ⊢
        refine vv_istore (lv2 := [(6, .int may), (0, .ref (A 17)), (1, .int (nI s)), (2, .int (nI wk)), (3, .int (nI nn)), (4, .int person), (5, .ref (A (40 + s)))]) hC dX1_shares_93 (by decide) rfl ?_
        refine vv_lv [1, 2, 3, 4, 5, 6, 0] rfl ?_
        refine vv_iload hC 6 dX1_shares_95 rfl ?_
        refine vv_callS hC dX1_shares_97 md_J6_bitCount_0f7a4 lk_m_X1_68 lk_t_J6_bitCount_0f7a4 (As := [.int may]) (rest := []) (c_J6_bitCount_0f7a4 g w0 may) rfl rfl (Nat.le_of_ble_eq_true rfl) ⟨by dsimp only; omega, by dsimp only; omega, by dsimp only; omega, by dsimp only; omega⟩ (fun r w9 hq => ?_)
        obtain ⟨rfl, rfl⟩ := hq
        show V g X 15 w0 0 0 100 [(0, .ref (A 17)), (1, .int (nI s)), (2, .int (nI wk)), (3, .int (nI nn)), (4, .int person), (5, .ref (A (40 + s))), (6, .int may)] [.int (f_J6_bitCount_0f7a4 may)]
        generalize hall : f_J6_bitCount_0f7a4 may = all at hfs ⊢
        refine vv_istore (lv2 := [(7, .int all), (0, .ref (A 17)), (1, .int (nI s)), (2, .int (nI wk)), (3, .int (nI nn)), (4, .int person), (5, .ref (A (40 + s))), (6, .int may)]) hC dX1_shares_100 (by decide) rfl ?_
        refine vv_lv [1, 2, 3, 4, 5, 6, 7, 0] rfl ?_
        refine vv_iload hC 7 dX1_shares_102 rfl ?_
        have hJ1 : V g X 15 w0 0 0 116 [(0, .ref (A 17)), (1, .int (nI s)), (2, .int (nI wk)), (3, .int (nI nn)), (4, .int person), (5, .ref (A (40 + s))), (6, .int may), (7, .int all)] [.int (f_sh_each all)] := by
          generalize hea : f_sh_each all = each at hfs ⊢
          refine vv_istore (lv2 := [(8, .int each), (0, .ref (A 17)), (1, .int (nI s)), (2, .int (nI wk)), (3, .int (nI nn)), (4, .int person), (5, .ref (A (40 + s))), (6, .int may), (7, .int all)]) hC dX1_shares_116 (by decide) rfl ?_
          refine vv_lv [1, 2, 3, 4, 5, 6, 7, 8, 0] rfl ?_
          refine vv_iload_n hC 3 dX1_shares_118 rfl rfl ?_
          refine vv_iconst (v := 1) hC dX1_shares_119 (by decide) ?_
          have hJ2 : V g X 15 w0 0 0 146 [(0, .ref (A 17)), (1, .int (nI s)), (2, .int (nI wk)), (3, .int (nI nn)), (4, .int person), (5, .ref (A (40 + s))), (6, .int may), (7, .int all), (8, .int each)] [.int (f_sh_goals v person may nn)] := by
            generalize hgo : f_sh_goals v person may nn = goals at hfs ⊢
            refine vv_istore (lv2 := [(9, .int goals), (0, .ref (A 17)), (1, .int (nI s)), (2, .int (nI wk)), (3, .int (nI nn)), (4, .int person), (5, .ref (A (40 + s))), (6, .int may), (7, .int all), (8, .int each)]) hC dX1_shares_146 (by decide) rfl ?_
            refine vv_lv [1, 2, 3, 4, 5, 6, 7, 8, 9, 0] rfl ?_
            refine vv_bipush (v := (6)) hC dX1_shares_148 (by decide) ?_
            refine vv_iload hC 8 dX1_shares_150 rfl ?_
            refine vv_iload hC 9 dX1_shares_152 rfl ?_
            refine vv_callS hC dX1_shares_154 md_J6_bitCount_0f7a4 lk_m_X1_68 lk_t_J6_bitCount_0f7a4 (As := [.int goals]) (rest := [.int each, .int 6]) (c_J6_bitCount_0f7a4 g w0 goals) rfl rfl (Nat.le_of_ble_eq_true rfl) ⟨by dsimp only; omega, by dsimp only; omega, by dsimp only; omega, by dsimp only; omega⟩ (fun r w9 hq => ?_)
            obtain ⟨rfl, rfl⟩ := hq
            show V g X 15 w0 0 0 157 [(0, .ref (A 17)), (1, .int (nI s)), (2, .int (nI wk)), (3, .int (nI nn)), (4, .int person), (5, .ref (A (40 + s))), (6, .int may), (7, .int all), (8, .int each), (9, .int goals)] [.int (f_J6_bitCount_0f7a4 goals), .int each, .int 6]
            refine vv_imul hC dX1_shares_157 ?_
            refine vv_isub hC dX1_shares_158 ?_
            show V g X 15 w0 0 0 159 [(0, .ref (A 17)), (1, .int (nI s)), (2, .int (nI wk)), (3, .int (nI nn)), (4, .int person), (5, .ref (A (40 + s))), (6, .int may), (7, .int all), (8, .int each), (9, .int goals)] [.int (f_sh_still each goals)]
            generalize hsti : f_sh_still each goals = still at hfs ⊢
            refine vv_istore (lv2 := [(10, .int still), (0, .ref (A 17)), (1, .int (nI s)), (2, .int (nI wk)), (3, .int (nI nn)), (4, .int person), (5, .ref (A (40 + s))), (6, .int may), (7, .int all), (8, .int each), (9, .int goals)]) hC dX1_shares_159 (by decide) rfl ?_
            refine vv_lv [1, 2, 3, 4, 5, 6, 7, 8, 9, 10, 0] rfl ?_
            refine vv_iload hC 10 dX1_shares_161 rfl ?_
            have hJ3 : ∀ w1 : Wd, wE (dM A s) w0 w1 → Pool A w1 s → V g X 15 w1 0 0 185 [(0, .ref (A 17)), (1, .int (nI s)), (2, .int (nI wk)), (3, .int (nI nn)), (4, .int person), (5, .ref (A (40 + s))), (6, .int may), (7, .int all), (8, .int each), (9, .int goals), (10, .int still)] [.long (if still = 0 then 0 else still.toInt64 * f_sh v person m here (wk + 1) nn)] := by
              intro w1 hE1 h_p1
              have h_ch := hE1 _ _ (dM_oo h_p h_ch (by decide)) h_ch
              have h_st := hE1 _ _ (dM_ao h_p h_st) h_st
              have h_v := hE1 _ _ (dM_oo h_p h_v (by decide)) h_v
              have h_here := hE1 _ _ (dM_k hA (Nat.le_refl _) (by omega)) h_here
              generalize hsu : (if still = 0 then 0 else still.toInt64 * f_sh v person m here (wk + 1) nn) = sum at hfs ⊢
              refine vv_lstore (lv2 := [(11, .long sum), (0, .ref (A 17)), (1, .int (nI s)), (2, .int (nI wk)), (3, .int (nI nn)), (4, .int person), (5, .ref (A (40 + s))), (6, .int may), (7, .int all), (8, .int each), (9, .int goals), (10, .int still)]) hC dX1_shares_185 (by decide) rfl ?_
              refine vv_lv [1, 2, 3, 4, 5, 6, 7, 8, 9, 10, 11, 0] rfl ?_
              refine vv_aload_n hC 0 dX1_shares_187 rfl rfl ?_
              refine vv_get (v := .ref (A 18)) hC fl_X1_11 dX1_shares_188 h_ch rfl ?_
              refine vv_iload_n hC 1 dX1_shares_191 rfl rfl ?_
              refine vv_iconst (v := 1) hC dX1_shares_192 (by decide) ?_
              refine vv_iadd hC dX1_shares_193 ?_
              refine vv_topi (nI (s + 1)) (nI_add s 1) ?_
              refine vv_callSN hC dX1_shares_194 md_X8_nightAt lk_n_X1_28 lk_t_X8_nightAt (As := [.ref (A 18), .int (nI (s + 1))]) (rest := []) (c_X8_nightAt g w1 (A 18) 16 (s + 1) steps (A (40 + (s + 1))) (by omega) (by decide) (hst _ (by omega)) h_st) rfl rfl (Nat.le_of_ble_eq_true rfl) ⟨by dsimp only; omega, by dsimp only; omega, by dsimp only; omega, by dsimp only; omega⟩ (fun r w9 hq => ?_)
              obtain ⟨rfl, rfl⟩ := hq
              show V g X 15 w1 0 0 197 [(0, .ref (A 17)), (1, .int (nI s)), (2, .int (nI wk)), (3, .int (nI nn)), (4, .int person), (5, .ref (A (40 + s))), (6, .int may), (7, .int all), (8, .int each), (9, .int goals), (10, .int still), (11, .long sum)] [.ref (A (40 + (s + 1)))]
              refine vv_astore (lv2 := [(13, .ref (A (40 + (s + 1)))), (0, .ref (A 17)), (1, .int (nI s)), (2, .int (nI wk)), (3, .int (nI nn)), (4, .int person), (5, .ref (A (40 + s))), (6, .int may), (7, .int all), (8, .int each), (9, .int goals), (10, .int still), (11, .long sum)]) hC dX1_shares_197 (by decide) rfl ?_
              refine vv_lv [1, 2, 3, 4, 5, 6, 7, 8, 9, 10, 11, 12, 0] rfl ?_
              refine vv_iconst (v := 0) hC dX1_shares_199 (by decide) ?_
              refine vv_istore (lv2 := [(14, .int (nI 0)), (0, .ref (A 17)), (1, .int (nI s)), (2, .int (nI wk)), (3, .int (nI nn)), (4, .int person), (5, .ref (A (40 + s))), (6, .int may), (7, .int all), (8, .int each), (9, .int goals), (10, .int still), (11, .long sum), (13, .ref (A (40 + (s + 1))))]) hC dX1_shares_200 (by decide) rfl ?_
              refine vv_lv [1, 2, 3, 4, 5, 6, 7, 8, 9, 10, 11, 12, 13, 0] rfl ?_
              have hL : ∀ (r h : Nat) (su out : Int64) (w4 : Wd), h + r = 4 → out = f_sh_L goals each (fun h => f_sh v person m (f_X2_walk here v (nI wk) (nI h)).2 (wk + 1) nn) r h su → wE (dM A s) w0 w4 → Pool A w4 s → (∀ w5 : Wd, wE (dM A s) w0 w5 → Pool A w5 s → V g X 15 w5 0 0 271 [(0, .ref (A 17)), (1, .int (nI s)), (2, .int (nI wk)), (3, .int (nI nn)), (4, .int person), (5, .ref (A (40 + s))), (6, .int may), (7, .int all), (8, .int each), (9, .int goals), (10, .int still), (11, .long out), (13, .ref (A (40 + (s + 1))))] []) → V g X 15 w4 0 0 202 [(0, .ref (A 17)), (1, .int (nI s)), (2, .int (nI wk)), (3, .int (nI nn)), (4, .int person), (5, .ref (A (40 + s))), (6, .int may), (7, .int all), (8, .int each), (9, .int goals), (10, .int still), (11, .long su), (13, .ref (A (40 + (s + 1)))), (14, .int (nI h))] [] := by
                intro r
                induction r with
                | zero =>
                  intro h su out w4 hb ho hE4 h_p4 hk
                  refine vv_iload hC 13 dX1_shares_202 rfl ?_
                  refine vv_iconst (v := 4) hC dX1_shares_204 (by decide) ?_
                  refine vv_icmp_ge hC 271 dX1_shares_205 (by decide) (fun c => ?_) (fun c => False.elim (c ((nI_le_ (a := 4) (b := h) (by omega) (by omega)).mpr (by omega))))
                  refine vv_lv [0, 1, 2, 3, 4, 5, 6, 7, 8, 9, 10, 11, 12] rfl ?_
                  subst ho
                  exact hk w4 hE4 h_p4
                | succ r ih =>
                  intro h su out w4 hb ho hE4 h_p4 hk
                  refine vv_iload hC 13 dX1_shares_202 rfl ?_
                  refine vv_iconst (v := 4) hC dX1_shares_204 (by decide) ?_
                  refine vv_icmp_ge hC 271 dX1_shares_205 (by decide) (fun c => absurd ((nI_le_ (a := 4) (b := h) (by omega) (by omega)).mp c) (by omega)) (fun c => ?_)
                  refine vv_aload hC 12 dX1_shares_208 rfl ?_
                  refine vv_ifnull hC dX1_shares_210 ?_
                  refine vv_iload hC 9 dX1_shares_213 rfl ?_
                  refine vv_iload hC 13 dX1_shares_215 rfl ?_
                  refine vv_callSN hC dX1_shares_217 md_X8_has lk_n_X1_47 lk_t_X8_has (As := [.int goals, .int (nI h)]) (rest := []) (c_X8_has g w4 goals (nI h)) rfl rfl (Nat.le_of_ble_eq_true rfl) ⟨by dsimp only; omega, by dsimp only; omega, by dsimp only; omega, by dsimp only; omega⟩ (fun r w9 hq => ?_)
                  obtain ⟨rfl, rfl⟩ := hq
                  show V g X 15 w4 0 0 220 [(0, .ref (A 17)), (1, .int (nI s)), (2, .int (nI wk)), (3, .int (nI nn)), (4, .int person), (5, .ref (A (40 + s))), (6, .int may), (7, .int all), (8, .int each), (9, .int goals), (10, .int still), (11, .long su), (13, .ref (A (40 + (s + 1)))), (14, .int (nI h))] [.int (bI (f_X8_has goals (nI h)))]
                  have hJ4 : ∀ w5 : Wd, wE (dM A s) w0 w5 → Pool A w5 s → V g X 15 w5 0 0 265 [(0, .ref (A 17)), (1, .int (nI s)), (2, .int (nI wk)), (3, .int (nI nn)), (4, .int person), (5, .ref (A (40 + s))), (6, .int may), (7, .int all), (8, .int each), (9, .int goals), (10, .int still), (11, .long (if f_X8_has goals (nI h) = true then su + each.toInt64 * f_sh v person m (f_X2_walk here v (nI wk) (nI h)).2 (wk + 1) nn else su)), (13, .ref (A (40 + (s + 1)))), (14, .int (nI h))] [] := by
                    intro w5 hE5 h_p5
                    refine vv_iinc (lv2 := [(14, .int (nI (h + 1))), (0, .ref (A 17)), (1, .int (nI s)), (2, .int (nI wk)), (3, .int (nI nn)), (4, .int person), (5, .ref (A (40 + s))), (6, .int may), (7, .int all), (8, .int each), (9, .int goals), (10, .int still), (11, .long (if f_X8_has goals (nI h) = true then su + each.toInt64 * f_sh v person m (f_X2_walk here v (nI wk) (nI h)).2 (wk + 1) nn else su)), (13, .ref (A (40 + (s + 1))))]) hC 13 dX1_shares_265 rfl (nI_add h 1) (by decide) rfl ?_
                    refine vv_goto hC 202 dX1_shares_268 (by decide) ?_
                    refine vv_lv [1, 2, 3, 4, 5, 6, 7, 8, 9, 10, 11, 12, 13, 0] rfl ?_
                    exact ih (h + 1) _ out w5 (by omega) ho hE5 h_p5 hk
                  refine vv_if_eq hC 265 dX1_shares_220 (by decide) (fun c5 => ?_) (fun c5 => ?_)
                  · have c5 : ¬ f_X8_has goals (nI h) = true := bI_f c5
                    have hz := hJ4 w4 hE4 h_p4
                    rw [if_neg c5] at hz
                    exact hz
                  · have c5 : f_X8_has goals (nI h) = true := bI_t c5
                    obtain ⟨nx, h_nx⟩ := h_p4 (s + 1) (by omega) (by omega)
                    have h_ch4 := hE4 _ _ (dM_oo h_p h_ch0 (by decide)) h_ch0
                    have h_v4 := hE4 _ _ (dM_oo h_p h_v0 (by decide)) h_v0
                    have h_st4 := hE4 _ _ (dM_ao h_p h_st0) h_st0
                    have h_here4 := hE4 _ _ (dM_k hA (Nat.le_refl _) (by omega)) h_here0
                    refine vv_aload hC 12 dX1_shares_223 rfl ?_
                    refine vv_aload hC 5 dX1_shares_225 rfl ?_
                    refine vv_callV hC dX1_shares_227 md_X2_copyFrom lk_m_X1_32 lk_i_X2_copyFrom lk_s_X2_copyFrom h_nx rfl (As := [.ref (A (40 + s))]) (rest := []) (c_X2_copyFrom g w4 (A (40 + (s + 1))) (A (40 + s)) nx here h_nx h_here4 (fw_inj hA (by omega) (by omega) (by omega))) rfl rfl (Nat.le_of_ble_eq_true rfl) ⟨by dsimp only; omega, by dsimp only; omega, by dsimp only; omega, by dsimp only; omega⟩ (fun r w9 hq => ?_)
                    obtain ⟨rfl, h_nx5, hs5⟩ := hq
                    obtain ⟨w5, rfl⟩ : ∃ z, z = w9 := ⟨_, rfl⟩
                    have h_ch5 := hs5 _ _ (fw_oo h_ch4 h_nx (by decide)) h_ch4
                    have h_st5 := hs5 _ _ (fw_ao h_st4 h_nx) h_st4
                    have h_v5 := hs5 _ _ (fw_oo h_v4 h_nx (by decide)) h_v4
                    have h_p5 := Pool.out hA hs5 (Nat.le_refl _) h_p4.tail
                    show V g X 15 w5 0 0 230 [(0, .ref (A 17)), (1, .int (nI s)), (2, .int (nI wk)), (3, .int (nI nn)), (4, .int person), (5, .ref (A (40 + s))), (6, .int may), (7, .int all), (8, .int each), (9, .int goals), (10, .int still), (11, .long su), (13, .ref (A (40 + (s + 1)))), (14, .int (nI h))] []
                    refine vv_aload hC 12 dX1_shares_230 rfl ?_
                    refine vv_aload_n hC 0 dX1_shares_232 rfl rfl ?_
                    refine vv_get (v := .ref a_v) hC fl_X1_20 dX1_shares_233 h_ch5 rfl ?_
                    refine vv_iload_n hC 2 dX1_shares_236 rfl rfl ?_
                    refine vv_iload hC 13 dX1_shares_237 rfl ?_
                    refine vv_callV hC dX1_shares_239 md_X2_walk lk_m_X1_85 lk_i_X2_walk lk_s_X2_walk h_nx5 rfl (As := [.ref a_v, .int (nI wk), .int (nI h)]) (rest := []) (c_X2_walk g w5 (A (40 + (s + 1))) a_v _ v (nI wk) (nI h) hvh hvp h_nx5 h_v5) rfl rfl (Nat.le_of_ble_eq_true rfl) ⟨by dsimp only; omega, by dsimp only; omega, by dsimp only; omega, by dsimp only; omega⟩ (fun r w9 hq => ?_)
                    obtain ⟨rfl, h_nx6, hs6⟩ := hq
                    obtain ⟨w6, rfl⟩ : ∃ z, z = w9 := ⟨_, rfl⟩
                    have h_ch6 := hs6 _ _ (fw_oo h_ch5 h_nx5 (by decide)) h_ch5
                    have h_st6 := hs6 _ _ (fw_ao h_st5 h_nx5) h_st5
                    have h_v6 := hs6 _ _ (fw_oo h_v5 h_nx5 (by decide)) h_v5
                    have h_p6 := Pool.out hA hs6 (Nat.le_refl _) h_p5
                    show V g X 15 w6 0 0 242 [(0, .ref (A 17)), (1, .int (nI s)), (2, .int (nI wk)), (3, .int (nI nn)), (4, .int person), (5, .ref (A (40 + s))), (6, .int may), (7, .int all), (8, .int each), (9, .int goals), (10, .int still), (11, .long su), (13, .ref (A (40 + (s + 1)))), (14, .int (nI h))] [.int ((f_X2_walk (f_X2_copyFrom nx here) v (nI wk) (nI h)).1)]
                    refine vv_pop hC dX1_shares_242 rfl ?_
                    refine vv_lload hC 11 dX1_shares_243 rfl ?_
                    refine vv_iload hC 8 dX1_shares_245 rfl ?_
                    refine vv_i2l hC dX1_shares_247 ?_
                    refine vv_aload_n hC 0 dX1_shares_248 rfl rfl ?_
                    refine vv_iload_n hC 1 dX1_shares_249 rfl rfl ?_
                    refine vv_iconst (v := 1) hC dX1_shares_250 (by decide) ?_
                    refine vv_iadd hC dX1_shares_251 ?_
                    refine vv_topi (nI (s + 1)) (nI_add s 1) ?_
                    refine vv_iload_n hC 2 dX1_shares_252 rfl rfl ?_
                    refine vv_iconst (v := 1) hC dX1_shares_253 (by decide) ?_
                    refine vv_iadd hC dX1_shares_254 ?_
                    refine vv_topi (nI (wk + 1)) (nI_add wk 1) ?_
                    refine vv_iload_n hC 3 dX1_shares_255 rfl rfl ?_
                    refine vv_iload hC 4 dX1_shares_256 rfl ?_
                    refine vv_callV hC dX1_shares_258 md_X1_shares lk_m_X1_36 lk_i_X1_shares lk_s_X1_shares h_ch6 rfl (As := [.int (nI (s + 1)), .int (nI (wk + 1)), .int (nI nn), .int person]) (rest := [.long each.toInt64, .long su]) (IH w6 (s + 1) (wk + 1) nn (f_X2_walk here v (nI wk) (nI h)).2 (by omega) (by omega) (by omega) (by omega) (by omega) h_ch6 h_st6 h_v6 h_nx6 h_p6) rfl rfl (Nat.le_of_ble_eq_true rfl) ⟨by dsimp only; omega, by dsimp only; omega, by dsimp only; omega, by dsimp only; omega⟩ (fun r w9 hq => ?_)
                    obtain ⟨rfl, h_p7, hs7⟩ := hq
                    obtain ⟨w7, rfl⟩ : ∃ z, z = w9 := ⟨_, rfl⟩
                    have h_nx7 := hs7 _ _ (dM_k hA (Nat.le_refl _) (by omega)) h_nx6
                    show V g X 15 w7 0 0 261 [(0, .ref (A 17)), (1, .int (nI s)), (2, .int (nI wk)), (3, .int (nI nn)), (4, .int person), (5, .ref (A (40 + s))), (6, .int may), (7, .int all), (8, .int each), (9, .int goals), (10, .int still), (11, .long su), (13, .ref (A (40 + (s + 1)))), (14, .int (nI h))] [.long (f_sh v person m (f_X2_walk here v (nI wk) (nI h)).2 (wk + 1) nn), .long each.toInt64, .long su]
                    refine vv_lmul hC dX1_shares_261 ?_
                    refine vv_ladd hC dX1_shares_262 ?_
                    refine vv_lstore (lv2 := [(11, .long (su + each.toInt64 * f_sh v person m (f_X2_walk here v (nI wk) (nI h)).2 (wk + 1) nn)), (0, .ref (A 17)), (1, .int (nI s)), (2, .int (nI wk)), (3, .int (nI nn)), (4, .int person), (5, .ref (A (40 + s))), (6, .int may), (7, .int all), (8, .int each), (9, .int goals), (10, .int still), (13, .ref (A (40 + (s + 1)))), (14, .int (nI h))]) hC dX1_shares_263 (by decide) rfl ?_
                    refine vv_lv [1, 2, 3, 4, 5, 6, 7, 8, 9, 10, 11, 0, 12, 13] rfl ?_
                    have hz := hJ4 w7 (hE4.trans (((hs5.mono (fun _ z => dM_hd (by omega) z)).trans (hs6.mono (fun _ z => dM_hd (by omega) z))).trans (hs7.mono (fun _ z => dM_up z)))) (Pool.cons h_nx7 h_p7)
                    rw [if_pos c5] at hz
                    exact hz
              refine hL 4 0 sum _ w1 (by omega) rfl hE1 h_p1 (fun w5 hE5 h_p5 => ?_)
              refine vv_lload hC 11 dX1_shares_271 rfl ?_
              refine vv_lret hC hR rfl dX1_shares_273 (by omega) (by omega) ?_
              exact ⟨by rw [hfs], h_p5, hE5⟩
            refine vv_if_ne hC 170 dX1_shares_163 (by decide) (fun c4 => ?_) (fun c4 => ?_)
            · have c4 : ¬ still = 0 := c4
              refine vv_iload hC 10 dX1_shares_170 rfl ?_
              refine vv_i2l hC dX1_shares_172 ?_
              refine vv_aload_n hC 0 dX1_shares_173 rfl rfl ?_
              refine vv_iload_n hC 1 dX1_shares_174 rfl rfl ?_
              refine vv_iload_n hC 2 dX1_shares_175 rfl rfl ?_
              refine vv_iconst (v := 1) hC dX1_shares_176 (by decide) ?_
              refine vv_iadd hC dX1_shares_177 ?_
              refine vv_topi (nI (wk + 1)) (nI_add wk 1) ?_
              refine vv_iload_n hC 3 dX1_shares_178 rfl rfl ?_
              refine vv_iload hC 4 dX1_shares_179 rfl ?_
              refine vv_callV hC dX1_shares_181 md_X1_shares lk_m_X1_36 lk_i_X1_shares lk_s_X1_shares h_ch rfl (As := [.int (nI s), .int (nI (wk + 1)), .int (nI nn), .int person]) (rest := [.long still.toInt64]) (IH w0 s (wk + 1) nn here (by omega) (by omega) (by omega) (by omega) (by omega) h_ch h_st h_v h_here h_p) rfl rfl (Nat.le_of_ble_eq_true rfl) ⟨by dsimp only; omega, by dsimp only; omega, by dsimp only; omega, by dsimp only; omega⟩ (fun r w9 hq => ?_)
              obtain ⟨rfl, h_p7, hs7⟩ := hq
              obtain ⟨w7, rfl⟩ : ∃ z, z = w9 := ⟨_, rfl⟩
              show V g X 15 w7 0 0 184 [(0, .ref (A 17)), (1, .int (nI s)), (2, .int (nI wk)), (3, .int (nI nn)), (4, .int person), (5, .ref (A (40 + s))), (6, .int may), (7, .int all), (8, .int each), (9, .int goals), (10, .int still)] [.long (f_sh v person m here (wk + 1) nn), .long still.toInt64]
              refine vv_lmul hC dX1_shares_184 ?_
              have hz := hJ3 w7 hs7 h_p7
              rw [if_neg c4] at hz
              exact hz
            · have c4 : still = 0 := c4
              refine vv_lconst (v := 0) hC dX1_shares_166 (by decide) ?_
              refine vv_goto hC 185 dX1_shares_167 (by decide) ?_
              have hz := hJ3 w0 hE0 h_p
              rw [if_pos c4] at hz
              exact hz
          refine vv_icmp_ne hC 144 dX1_shares_120 (by decide) (fun c3 => ?_) (fun c3 => ?_)
          · have c3 : ¬ nn = 1 := fun z => c3 (by rw [z]; rfl)
            refine vv_iload hC 6 dX1_shares_144 rfl ?_
            have hz := hJ2
            simp only [f_sh_goals, if_neg c3] at hz
            exact hz
          · have c3 : nn = 1 := (nI_eq_ (a := nn) (b := 1) (by omega) (by omega)).mp c3
            refine vv_iload hC 6 dX1_shares_123 rfl ?_
            refine vv_aload_n hC 0 dX1_shares_125 rfl rfl ?_
            refine vv_get (v := .ref a_v) hC fl_X1_20 dX1_shares_126 h_ch rfl ?_
            refine vv_getN (v := .long (gVi_homes v)) hC fl_X1_74 dX1_shares_129 h_v rfl ?_
            refine vv_iload hC 4 dX1_shares_132 rfl ?_
            refine vv_callSN hC dX1_shares_134 md_X8_cell lk_n_X1_78 lk_t_X8_cell (As := [.long (gVi_homes v), .int person]) (rest := [.int may]) (c_X8_cell g w0 (gVi_homes v) person) rfl rfl (Nat.le_of_ble_eq_true rfl) ⟨by dsimp only; omega, by dsimp only; omega, by dsimp only; omega, by dsimp only; omega⟩ (fun r w9 hq => ?_)
            obtain ⟨rfl, rfl⟩ := hq
            show V g X 15 w0 0 0 137 [(0, .ref (A 17)), (1, .int (nI s)), (2, .int (nI wk)), (3, .int (nI nn)), (4, .int person), (5, .ref (A (40 + s))), (6, .int may), (7, .int all), (8, .int each)] [.int (f_X8_cell (gVi_homes v) person), .int may]
            refine vv_callSN hC dX1_shares_137 md_X8_bit lk_n_X1_82 lk_t_X8_bit (As := [.int (f_X8_cell (gVi_homes v) person)]) (rest := [.int may]) (c_X8_bit g w0 (f_X8_cell (gVi_homes v) person)) rfl rfl (Nat.le_of_ble_eq_true rfl) ⟨by dsimp only; omega, by dsimp only; omega, by dsimp only; omega, by dsimp only; omega⟩ (fun r w9 hq => ?_)
            obtain ⟨rfl, rfl⟩ := hq
            show V g X 15 w0 0 0 140 [(0, .ref (A 17)), (1, .int (nI s)), (2, .int (nI wk)), (3, .int (nI nn)), (4, .int person), (5, .ref (A (40 + s))), (6, .int may), (7, .int all), (8, .int each)] [.int (f_X8_bit (f_X8_cell (gVi_homes v) person)), .int may]
            refine vv_iand hC dX1_shares_140 ?_
            refine vv_goto hC 146 dX1_shares_141 (by decide) ?_
            have hz := hJ2
            simp only [f_sh_goals, if_pos c3] at hz
            exact hz
        refine vv_if_ne hC 111 dX1_shares_104 (by decide) (fun c6 => ?_) (fun c6 => ?_)
        · have c6 : ¬ all = 0 := c6
          refine vv_bipush (v := (6)) hC dX1_shares_111 (by decide) ?_
          refine vv_iload hC 7 dX1_shares_113 rfl ?_
          refine vv_idiv hC dX1_shares_115 c6 ?_
          have hz := hJ1
          simp only [f_sh_each, if_neg c6] at hz
          exact hz
        · have c6 : all = 0 := c6
          refine vv_iconst (v := 0) hC dX1_shares_107 (by decide) ?_
          refine vv_goto hC 116 dX1_shares_108 (by decide) ?_
          have hz := hJ1
          simp only [f_sh_each, if_pos c6] at hz
          exact hz
      · have c2 : gVi_people v ≤ wk := Nat.le_of_not_lt fun z => c2 ((nI_lt_ (by omega) (by omega)).mpr z)
        refine vv_iload_n hC 3 dX1_shares_65 rfl rfl ?_
        refine vv_iconst (v := 1) hC dX1_shares_66 (by decide) ?_
        refine vv_icmp_le hC 81 dX1_shares_67 (by decide) (fun c3 => ?_) (fun c3 => ?_)
        · have c3 : nn ≤ 1 := (nI_le_ (a := nn) (b := 1) (by omega) (by omega)).mp c3
          have hfs : f_sh v person (m + 1) here wk nn = 0 := by simp only [f_sh, if_neg c1, if_pos c2, if_pos c3]
          refine vv_lconst (v := 0) hC dX1_shares_81 (by decide) ?_
          refine vv_lret hC hR rfl dX1_shares_82 (by omega) (by omega) ?_
          exact ⟨by rw [hfs], h_p, hE0⟩
        · have c3 : ¬ nn ≤ 1 := fun z => c3 ((nI_le_ (a := nn) (b := 1) (by omega) (by omega)).mpr z)
          have hfs : f_sh v person (m + 1) here wk nn = f_sh v person m (f_X2_nextNight here).2 0 (nn - 1) := by simp only [f_sh, if_neg c1, if_pos c2, if_neg c3]
          refine vv_aload_n hC 0 dX1_shares_70 rfl rfl ?_
          refine vv_iload_n hC 1 dX1_shares_71 rfl rfl ?_
          refine vv_iload_n hC 3 dX1_shares_72 rfl rfl ?_
          refine vv_iload hC 4 dX1_shares_73 rfl ?_
          refine vv_callV hC dX1_shares_75 md_X1_sharesAfterDawn lk_m_X1_60 lk_i_X1_sharesAfterDawn lk_s_X1_sharesAfterDawn h_ch rfl (As := [.int (nI s), .int (nI nn), .int person]) (rest := []) (c_afterDawn g A hA v hvh hvp a_v person steps hst m IH w0 s nn here (by omega) (by omega) (by omega) (by omega) h_ch h_st h_v h_here h_p) rfl rfl (Nat.le_of_ble_eq_true rfl) ⟨by dsimp only; omega, by dsimp only; omega, by dsimp only; omega, by dsimp only; omega⟩ (fun r w9 hq => ?_)
          obtain ⟨rfl, h_p7, hs7⟩ := hq
          obtain ⟨w7, rfl⟩ : ∃ z, z = w9 := ⟨_, rfl⟩
          show V g X 15 w7 0 0 78 [(0, .ref (A 17)), (1, .int (nI s)), (2, .int (nI wk)), (3, .int (nI nn)), (4, .int person), (5, .ref (A (40 + s)))] [.long (f_sh v person m (f_X2_nextNight here).2 0 (nn - 1))]
          refine vv_goto hC 82 dX1_shares_78 (by decide) ?_
          refine vv_lret hC hR rfl dX1_shares_82 (by omega) (by omega) ?_
          exact ⟨by rw [hfs], h_p7, hs7⟩
    · have c1 : f_X8_has (gN_wolves here ||| gN_bitten here) person = true := bI_t c1
      have hfs : f_sh v person (m + 1) here wk nn = f_X8_powerOf 6 (gVi_people v * nn - wk) := by simp only [f_sh, if_pos c1]
      refine vv_ldc2 (v := (6)) hC lk_l_X1_51 dX1_shares_36 ?_
      refine vv_aload_n hC 0 dX1_shares_39 rfl rfl ?_
      refine vv_get (v := .ref a_v) hC fl_X1_20 dX1_shares_40 h_ch rfl ?_
      refine vv_getN (v := .int (nI (gVi_people v))) hC fl_X1_53 dX1_shares_43 h_v rfl ?_
      refine vv_iload_n hC 3 dX1_shares_46 rfl rfl ?_
      refine vv_imul hC dX1_shares_47 ?_
      refine vv_topi (nI (gVi_people v * nn)) (pk_mul _ _) ?_
      refine vv_iload_n hC 2 dX1_shares_48 rfl rfl ?_
      have hle : wk ≤ gVi_people v * nn := Nat.le_trans hwk (Nat.le_mul_of_pos_right _ hn1)
      refine vv_isub hC dX1_shares_49 ?_
      refine vv_topi (nI (gVi_people v * nn - wk)) (pk_sub hle) ?_
      have hmu : gVi_people v * nn ≤ 6 * 2 := Nat.mul_le_mul hvp hn2
      refine vv_callSN hC dX1_shares_50 md_X8_powerOf lk_n_X1_56 lk_t_X8_powerOf (As := [.long 6, .int (nI (gVi_people v * nn - wk))]) (rest := []) (c_X8_powerOf g w0 6 (gVi_people v * nn - wk) (by omega)) rfl rfl (Nat.le_of_ble_eq_true rfl) ⟨by dsimp only; omega, by dsimp only; omega, by dsimp only; omega, by dsimp only; omega⟩ (fun r w9 hq => ?_)
      obtain ⟨rfl, rfl⟩ := hq
      show V g X 15 w0 0 0 53 [(0, .ref (A 17)), (1, .int (nI s)), (2, .int (nI wk)), (3, .int (nI nn)), (4, .int person), (5, .ref (A (40 + s)))] [.long (f_X8_powerOf 6 (gVi_people v * nn - wk))]
      refine vv_lret hC hR rfl dX1_shares_53 (by omega) (by omega) ?_
      exact ⟨by rw [hfs], h_p, hE0⟩
theorem pool0 {A : Nat → Nat} {w : Wd} {n : TN} (h : w (A 40) = some (.inr (2, cN n))) (hp : Pool A w 0) : ∀ j, j < 16 → ∃ n, w (A (40 + j)) = some (.inr (2, cN n)) := by
  intro j hj
  match j, hj with
  | 0, _ => exact ⟨n, h⟩
  | j + 1, hj => exact hp (j + 1) (by omega) hj
set_option maxHeartbeats 4000000 in
set_option maxRecDepth 100000 in
theorem c_X1_ofBeingWolf (g : GT) (w0 : Wd) (A : Nat → Nat) (hA : ∀ i j, i < 60 → j < 60 → A i = A j → i = j) (cv vi : Nat) (v : TVi) (n : TN) (steps : Nat → Option Nat) (person : Int32) (nn : Nat) (hvh : gVi_houses v ≤ 4) (hvp : gVi_people v ≤ 6) (hst : ∀ k, k < 16 → steps k = some (A (40 + k))) (hn1 : 1 ≤ nn) (hn2 : nn ≤ 2) (h_ch : w0 (A 17) = some (.inr (1, cCh (A 18) cv))) (h_st : w0 (A 18) = some (.inl (g.2.2.1 4, 16, .inr (.inr (.inr (.inr steps)))))) (h_v : w0 vi = some (.inr (7, cVi v))) (h_now : w0 (A 3) = some (.inr (2, cN n))) (h_p : ∀ j, j < 16 → ∃ n, w0 (A (40 + j)) = some (.inr (2, cN n))) :
  CT g yX1_ofBeingWolf cX1_ofBeingWolf 6 (some .long) 40 1200 0 0 w0 [.ref (A 17), .ref vi, .ref (A 3), .int person, .int (nI nn)] (fun r w2 => r = some (.long (f_sh v person 14 n 0 nn)) ∧ w2 (A 17) = some (.inr (1, cCh (A 18) vi)) ∧ (∀ j, j < 16 → ∃ n, w2 (A (40 + j)) = some (.inr (2, cN n))) ∧ wE (fun q => q = A 17 ∨ ∃ j, j < 16 ∧ q = A (40 + j)) w0 w2) := by
  refine CT.of (own := RX1) (by decide +kernel) rfl (Nat.le_of_ble_eq_true rfl) (fun X hC hR hI => ?_)
  obtain ⟨bg, h_bg⟩ := h_p 0 (by omega)
  have h_p0 : Pool A w0 0 := fun j h1 h2 => h_p j h2
  show V g X 6 w0 0 0 0 [(0, .ref (A 17)), (1, .ref vi), (2, .ref (A 3)), (3, .int person), (4, .int (nI nn))] []
  refine vv_aload_n hC 0 dX1_ofBeingWolf_0 rfl rfl ?_
  refine vv_aload_n hC 1 dX1_ofBeingWolf_1 rfl rfl ?_
  refine vv_put hC fp_X1_20 dX1_ofBeingWolf_2 h_ch rfl rfl (Nat.le_of_ble_eq_true rfl) (fun w1 t1 hs => ?_)
  have h_ch1 : w1 (A 17) = some (.inr (1, cCh (A 18) vi)) := t1
  have h_st1 := hs _ _ (fw_ao h_st h_ch) h_st
  have h_v1 := hs _ _ (fw_oo h_v h_ch (by decide)) h_v
  have h_now1 := hs _ _ (fw_oo h_now h_ch (by decide)) h_now
  have h_bg1 := hs _ _ (fw_oo h_bg h_ch (by decide)) h_bg
  have h_p1 := h_p0.far hs (fun j _ hj e => by have := hA _ _ (by omega) (by omega) e; omega)
  refine vv_aload_n hC 0 dX1_ofBeingWolf_5 rfl rfl ?_
  refine vv_get (v := .ref (A 18)) hC fl_X1_11 dX1_ofBeingWolf_6 h_ch1 rfl ?_
  refine vv_iconst (v := 0) hC dX1_ofBeingWolf_9 (by decide) ?_
  refine vv_callSN hC dX1_ofBeingWolf_10 md_X8_nightAt lk_n_X1_28 lk_t_X8_nightAt (As := [.ref (A 18), .int (nI 0)]) (rest := []) (c_X8_nightAt g w1 (A 18) 16 (0) steps (A (40 + (0))) (by omega) (by decide) (hst _ (by omega)) h_st1) rfl rfl (Nat.le_of_ble_eq_true rfl) ⟨by dsimp only; omega, by dsimp only; omega, by dsimp only; omega, by dsimp only; omega⟩ (fun r w9 hq => ?_)
  obtain ⟨rfl, rfl⟩ := hq
  show V g X 6 w1 0 0 13 [(0, .ref (A 17)), (1, .ref vi), (2, .ref (A 3)), (3, .int person), (4, .int (nI nn))] [.ref (A (40 + (0)))]
  refine vv_astore (lv2 := [(5, .ref (A (40 + (0)))), (0, .ref (A 17)), (1, .ref vi), (2, .ref (A 3)), (3, .int person), (4, .int (nI nn))]) hC dX1_ofBeingWolf_13 (by decide) rfl ?_
  refine vv_lv [1, 2, 3, 4, 5, 0] rfl ?_
  refine vv_aload hC 5 dX1_ofBeingWolf_15 rfl ?_
  refine vv_ifnonnull hC 22 dX1_ofBeingWolf_17 (by decide) ?_
  refine vv_aload hC 5 dX1_ofBeingWolf_22 rfl ?_
  refine vv_aload_n hC 2 dX1_ofBeingWolf_24 rfl rfl ?_
  refine vv_callV hC dX1_ofBeingWolf_25 md_X2_copyFrom lk_m_X1_32 lk_i_X2_copyFrom lk_s_X2_copyFrom h_bg1 rfl (As := [.ref (A 3)]) (rest := []) (c_X2_copyFrom g w1 (A (40 + 0)) (A 3) bg n h_bg1 h_now1 (fw_inj hA (by omega) (by omega) (by omega))) rfl rfl (Nat.le_of_ble_eq_true rfl) ⟨by dsimp only; omega, by dsimp only; omega, by dsimp only; omega, by dsimp only; omega⟩ (fun r w9 hq => ?_)
  obtain ⟨rfl, h_bg2, hs2⟩ := hq
  obtain ⟨w2, rfl⟩ : ∃ z, z = w9 := ⟨_, rfl⟩
  have h_ch2 := hs2 _ _ (fw_oo h_ch1 h_bg1 (by decide)) h_ch1
  have h_st2 := hs2 _ _ (fw_ao h_st1 h_bg1) h_st1
  have h_v2 := hs2 _ _ (fw_oo h_v1 h_bg1 (by decide)) h_v1
  have h_p2 := Pool.out hA hs2 (Nat.le_refl _) h_p1
  show V g X 6 w2 0 0 28 [(0, .ref (A 17)), (1, .ref vi), (2, .ref (A 3)), (3, .int person), (4, .int (nI nn)), (5, .ref (A (40 + (0))))] []
  refine vv_aload_n hC 0 dX1_ofBeingWolf_28 rfl rfl ?_
  refine vv_iconst (v := 0) hC dX1_ofBeingWolf_29 (by decide) ?_
  refine vv_iconst (v := 0) hC dX1_ofBeingWolf_30 (by decide) ?_
  refine vv_iload hC 4 dX1_ofBeingWolf_31 rfl ?_
  refine vv_iload_n hC 3 dX1_ofBeingWolf_33 rfl rfl ?_
  refine vv_callV hC dX1_ofBeingWolf_34 md_X1_shares lk_m_X1_36 lk_i_X1_shares lk_s_X1_shares h_ch2 rfl (As := [.int (nI 0), .int (nI 0), .int (nI nn), .int person]) (rest := []) (c_shares g A hA v hvh hvp vi person steps hst 14 w2 0 0 nn n (by omega) (by omega) (by omega) (by omega) (by omega) h_ch2 h_st2 h_v2 h_bg2 h_p2) rfl rfl (Nat.le_of_ble_eq_true rfl) ⟨by dsimp only; omega, by dsimp only; omega, by dsimp only; omega, by dsimp only; omega⟩ (fun r w9 hq => ?_)
  obtain ⟨rfl, h_p3, hs3⟩ := hq
  obtain ⟨w3, rfl⟩ : ∃ z, z = w9 := ⟨_, rfl⟩
  have h_ch3 := hs3 _ _ (dM_oo h_p2 h_ch2 (by decide)) h_ch2
  have h_bg3 := hs3 _ _ (dM_k hA (Nat.le_refl _) (by omega)) h_bg2
  show V g X 6 w3 0 0 37 [(0, .ref (A 17)), (1, .ref vi), (2, .ref (A 3)), (3, .int person), (4, .int (nI nn)), (5, .ref (A (40 + (0))))] [.long (f_sh v person 14 n 0 nn)]
  refine vv_lret hC hR rfl dX1_ofBeingWolf_37 (by omega) (by omega) ?_
  exact ⟨rfl, h_ch3, pool0 h_bg3 h_p3, ((hs.mono (fun _ z => Or.inl z)).trans (hs2.mono (fun _ z => Or.inr ⟨0, by omega, z⟩))).trans (hs3.mono (fun _ z => z.elim (fun j h => Or.inr ⟨j, h.2.1, h.2.2⟩)))⟩
def f_X8_danger (v : TVi) (n : TN) (p1 p2 : Int32) (p3 : Bool) : Int64 := if f_X8_noPerson v p1 = true then -1 else if p2 < 1 then -2 else if 2 < p2 then -2 else f_X8_partOf (f_sh v p1 14 n 0 (tn p2)) (f_X8_powerOf 6 (gVi_people v * tn p2)) p3
set_option maxHeartbeats 4000000 in
set_option maxRecDepth 100000 in
theorem c_X8_danger (g : GT) (w0 : Wd) (A : Nat → Nat) (hA : ∀ i j, i < 60 → j < 60 → A i = A j → i = j) (cv vi : Nat) (who_keptSlots : Int32) (who_seed : Int64) (village : TVi) (now : TN) (steps : Nat → Option Nat) (p1 p2 : Int32) (p3 : Bool) (hvh : gVi_houses village ≤ 4) (hvp : gVi_people village ≤ 6) (hst : ∀ k, k < 16 → steps k = some (A (40 + k))) (h_who : w0 (A 0) = some (.inr (8, cWh A vi (who_keptSlots, who_seed)))) (h_ch : w0 (A 17) = some (.inr (1, cCh (A 18) cv))) (h_st : w0 (A 18) = some (.inl (g.2.2.1 4, 16, .inr (.inr (.inr (.inr steps)))))) (h_village : w0 vi = some (.inr (7, cVi village))) (h_now : w0 (A 3) = some (.inr (2, cN now))) (h_p : ∀ j, j < 16 → ∃ n, w0 (A (40 + j)) = some (.inr (2, cN n))) :
  CT g yX8_danger cX8_danger 4 (some .long) 41 1300 0 0 w0 [.ref (A 0), .int p1, .int p2, .int (bI p3)] (fun r w2 => r = some (.long (f_X8_danger village now p1 p2 p3)) ∧ (∃ cv2, w2 (A 17) = some (.inr (1, cCh (A 18) cv2))) ∧ (∀ j, j < 16 → ∃ n, w2 (A (40 + j)) = some (.inr (2, cN n))) ∧ wE (fun q => q = A 17 ∨ ∃ j, j < 16 ∧ q = A (40 + j)) w0 w2) := by
  refine CT.of (own := RX8) (by decide +kernel) rfl (Nat.le_of_ble_eq_true rfl) (fun X hC hR hI => ?_)
  show V g X 4 w0 0 0 0 [(0, .ref (A 0)), (1, .int p1), (2, .int p2), (3, .int (bI p3))] []
  refine vv_aload_n hC 0 dX8_danger_0 rfl rfl ?_
  refine vv_iload_n hC 1 dX8_danger_1 rfl rfl ?_
  refine vv_callV hC dX8_danger_2 md_X8_noPerson lk_m_X8_134 lk_i_X8_noPerson lk_s_X8_noPerson h_who rfl (As := [.int p1]) (rest := []) (c_X8_noPerson g w0 A hA vi who_keptSlots who_seed village p1 h_who h_village) rfl rfl (Nat.le_of_ble_eq_true rfl) ⟨by dsimp only; omega, by dsimp only; omega, by dsimp only; omega, by dsimp only; omega⟩ (fun r w9 hq => ?_)
  obtain ⟨rfl, rfl⟩ := hq
  show V g X 4 w0 0 0 5 [(0, .ref (A 0)), (1, .int p1), (2, .int p2), (3, .int (bI p3))] [.int (bI (f_X8_noPerson village p1))]
  refine vv_if_eq hC 12 dX8_danger_5 (by decide) (fun c1 => ?_) (fun c1 => ?_)
  · have c1 : ¬ f_X8_noPerson village p1 = true := bI_f c1
    refine vv_iload_n hC 2 dX8_danger_12 rfl rfl ?_
    refine vv_iconst (v := 1) hC dX8_danger_13 (by decide) ?_
    refine vv_icmp_lt hC 22 dX8_danger_14 (by decide) (fun c2 => ?_) (fun c2 => ?_)
    · refine vv_ldc2 (v := (-2)) hC lk_l_X8_282 dX8_danger_22 ?_
      refine vv_lret hC hR rfl dX8_danger_25 (by omega) (by omega) ?_
      exact ⟨by simp only [f_X8_danger, if_neg c1, if_pos c2], ⟨cv, h_ch⟩, h_p, wE.refl⟩
    · refine vv_iload_n hC 2 dX8_danger_17 rfl rfl ?_
      refine vv_iconst (v := 2) hC dX8_danger_18 (by decide) ?_
      refine vv_icmp_le hC 26 dX8_danger_19 (by decide) (fun c3 => ?_) (fun c3 => ?_)
      · have c3 : ¬ 2 < p2 := Int32.not_lt.mpr c3
        obtain ⟨e2, hp1, hp2⟩ := c18_e (n := 2) c2 c3 (by decide)
        refine vv_aload_n hC 0 dX8_danger_26 rfl rfl ?_
        refine vv_get (v := .ref (A 17)) hC fl_X8_65 dX8_danger_27 h_who rfl ?_
        refine vv_aload_n hC 0 dX8_danger_30 rfl rfl ?_
        refine vv_get (v := .ref vi) hC fl_X8_19 dX8_danger_31 h_who rfl ?_
        refine vv_aload_n hC 0 dX8_danger_34 rfl rfl ?_
        refine vv_get (v := .ref (A 3)) hC fl_X8_26 dX8_danger_35 h_who rfl ?_
        refine vv_iload_n hC 1 dX8_danger_38 rfl rfl ?_
        refine vv_iload_n hC 2 dX8_danger_39 rfl rfl ?_
        refine vv_topi (nI (tn p2)) e2 ?_
        refine vv_callV hC dX8_danger_40 md_X1_ofBeingWolf lk_m_X8_284 lk_i_X1_ofBeingWolf lk_s_X1_ofBeingWolf h_ch rfl (As := [.ref vi, .ref (A 3), .int p1, .int (nI (tn p2))]) (rest := []) (c_X1_ofBeingWolf g w0 A hA cv vi village now steps p1 (tn p2) hvh hvp hst hp1 hp2 h_ch h_st h_village h_now h_p) rfl rfl (Nat.le_of_ble_eq_true rfl) ⟨by dsimp only; omega, by dsimp only; omega, by dsimp only; omega, by dsimp only; omega⟩ (fun r w9 hq => ?_)
        obtain ⟨rfl, h_ch1, h_p1, hs1⟩ := hq
        obtain ⟨w1, rfl⟩ : ∃ z, z = w9 := ⟨_, rfl⟩
        have h_who1 := hs1 _ _ (fun z => z.elim (fw_oo h_who h_ch (by decide)) (fun z => z.elim fun j h => by have := hA _ _ (by omega) (by omega) h.2; omega)) h_who
        have h_village1 := hs1 _ _ (fun z => z.elim (fw_oo h_village h_ch (by decide)) (fun z => z.elim fun j h => (h_p j h.1).elim fun n hn => fw_oo h_village hn (by decide) h.2)) h_village
        show V g X 4 w1 0 0 43 [(0, .ref (A 0)), (1, .int p1), (2, .int p2), (3, .int (bI p3))] [.long (f_sh village p1 14 now 0 (tn p2))]
        refine vv_ldc2 (v := (6)) hC lk_l_X8_288 dX8_danger_43 ?_
        refine vv_aload_n hC 0 dX8_danger_46 rfl rfl ?_
        refine vv_get (v := .ref vi) hC fl_X8_19 dX8_danger_47 h_who1 rfl ?_
        refine vv_getN (v := .int (nI (gVi_people village))) hC fl_X8_104 dX8_danger_50 h_village1 rfl ?_
        refine vv_iload_n hC 2 dX8_danger_53 rfl rfl ?_
        refine vv_topi (nI (tn p2)) e2 ?_
        refine vv_imul hC dX8_danger_54 ?_
        refine vv_topi (nI (gVi_people village * tn p2)) (pk_mul _ _) ?_
        have hmu : gVi_people village * tn p2 ≤ 6 * 2 := Nat.mul_le_mul hvp hp2
        refine vv_callS hC dX8_danger_55 md_X8_powerOf lk_m_X8_200 lk_t_X8_powerOf (As := [.long 6, .int (nI (gVi_people village * tn p2))]) (rest := [.long (f_sh village p1 14 now 0 (tn p2))]) (c_X8_powerOf g w1 6 (gVi_people village * tn p2) (by omega)) rfl rfl (Nat.le_of_ble_eq_true rfl) ⟨by dsimp only; omega, by dsimp only; omega, by dsimp only; omega, by dsimp only; omega⟩ (fun r w9 hq => ?_)
        obtain ⟨rfl, rfl⟩ := hq
        show V g X 4 w1 0 0 58 [(0, .ref (A 0)), (1, .int p1), (2, .int p2), (3, .int (bI p3))] [.long (f_X8_powerOf 6 (gVi_people village * tn p2)), .long (f_sh village p1 14 now 0 (tn p2))]
        refine vv_iload_n hC 3 dX8_danger_58 rfl rfl ?_
        refine vv_callS hC dX8_danger_59 md_X8_partOf lk_m_X8_251 lk_t_X8_partOf (As := [.long (f_sh village p1 14 now 0 (tn p2)), .long (f_X8_powerOf 6 (gVi_people village * tn p2)), .int (bI p3)]) (rest := []) (c_X8_partOf g w1 (f_sh village p1 14 now 0 (tn p2)) (f_X8_powerOf 6 (gVi_people village * tn p2)) p3) rfl rfl (Nat.le_of_ble_eq_true rfl) ⟨by dsimp only; omega, by dsimp only; omega, by dsimp only; omega, by dsimp only; omega⟩ (fun r w9 hq => ?_)
        obtain ⟨rfl, rfl⟩ := hq
        show V g X 4 w1 0 0 62 [(0, .ref (A 0)), (1, .int p1), (2, .int p2), (3, .int (bI p3))] [.long (f_X8_partOf (f_sh village p1 14 now 0 (tn p2)) (f_X8_powerOf 6 (gVi_people village * tn p2)) p3)]
        refine vv_lret hC hR rfl dX8_danger_62 (by omega) (by omega) ?_
        exact ⟨by simp only [f_X8_danger, if_neg c1, if_neg c2, if_neg c3], ⟨_, h_ch1⟩, h_p1, hs1⟩
      · have c3 : 2 < p2 := Int32.not_le.mp c3
        refine vv_ldc2 (v := (-2)) hC lk_l_X8_282 dX8_danger_22 ?_
        refine vv_lret hC hR rfl dX8_danger_25 (by omega) (by omega) ?_
        exact ⟨by simp only [f_X8_danger, if_neg c1, if_neg c2, if_pos c3], ⟨cv, h_ch⟩, h_p, wE.refl⟩
  · have c1 : f_X8_noPerson village p1 = true := bI_t c1
    refine vv_ldc2 (v := (-1)) hC lk_l_X8_243 dX8_danger_8 ?_
    refine vv_lret hC hR rfl dX8_danger_11 (by omega) (by omega) ?_
    exact ⟨by simp only [f_X8_danger, if_pos c1], ⟨cv, h_ch⟩, h_p, wE.refl⟩
