def f_X9_peek (x_size : Nat) (x_at : Nat) (text : Nat → Int32) : Int32 := (if x_size ≤ x_at then (-9 : Int32) else (if f_X9_in ((text x_at).toInt64) 48 57 = true then (text x_at - 48) else (-9 : Int32)))
set_option maxHeartbeats 4000000 in
set_option maxRecDepth 100000 in
theorem c_X9_peek (g : GT) (w0 : Wd) (B : Nat → Nat) (hB : ∀ i j, i < 60 → j < 60 → B i = B j → i = j) (x_thrown : Int32) (x_houses : Nat) (x_people : Nat) (x_paths : Nat) (x_acts : Nat) (x_size : Nat) (x_at : Nat) (x_readHouses : Nat) (x_readPeople : Nat) (x_readPaths : Nat) (x_sights : Nat) (x_drawn : Int64) (text : Nat → Int32) (hsz : x_size ≤ 96) (hat : x_at ≤ 96) (h_m : w0 (B 0) = some (.inr (9, cM B (x_thrown, x_houses, x_people, x_paths, x_acts, x_size, x_at, x_readHouses, x_readPeople, x_readPaths, x_sights, x_drawn)))) (h_text : w0 (B 12) = some (.inl (g.2.2.1 0, 96, .inl text))) : CT g yX9_peek cX9_peek 1 (some .int) 1 25 0 0 w0 [.ref (B 0)] (fun r w2 => r = some (.int (f_X9_peek x_size x_at text)) ∧ w0 = w2) := by
  refine CT.of (own := RX9) (by decide +kernel) rfl (Nat.le_of_ble_eq_true rfl) (fun X hC hR hI => ?_)
  show V g X 1 w0 0 0 0 [(0, .ref (B 0))] []
  refine vv_aload_n hC 0 dX9_peek_0 rfl rfl ?_
  refine vv_get (v := .int (nI x_at)) hC fl_X9_98 dX9_peek_1 h_m rfl ?_
  refine vv_aload_n hC 0 dX9_peek_4 rfl rfl ?_
  refine vv_get (v := .int (nI x_size)) hC fl_X9_93 dX9_peek_5 h_m rfl ?_
  have hJ2 : V g X 1 w0 0 0 50 [(0, .ref (B 0))] [.int (if x_size ≤ x_at then (-9 : Int32) else (if f_X9_in ((text x_at).toInt64) 48 57 = true then (text x_at - 48) else (-9 : Int32)))] := by
    have hf : (f_X9_peek x_size x_at text) = (if x_size ≤ x_at then (-9 : Int32) else (if f_X9_in ((text x_at).toInt64) 48 57 = true then (text x_at - 48) else (-9 : Int32))) := by first | (simp only [f_X9_peek]; done) | rfl | (simp only [f_X9_peek]; rfl)
    refine vv_iret hC hR rfl dX9_peek_50 (by omega) (by omega) ?_
    rw [hf]
    exact ⟨rfl, rfl⟩
  refine vv_icmp_ge hC 48 dX9_peek_8 (by decide) (fun c1 => ?_) (fun c1 => ?_)
  · have c1 : x_size ≤ x_at := (nI_le_ (a := x_size) (b := x_at) (by omega) (by omega)).mp c1
    refine vv_bipush (v := (-9)) hC dX9_peek_48 (by decide) ?_
    have hz := hJ2
    try simp only [if_pos c1] at hz
    first | exact hz | (simp only [if_pos c1]; exact hz)
  · have c1 : ¬ (x_size ≤ x_at) := fun z => c1 ((nI_le_ (a := x_size) (b := x_at) (by omega) (by omega)).mpr z)
    refine vv_aload_n hC 0 dX9_peek_11 rfl rfl ?_
    refine vv_get (v := .ref (B 12)) hC fl_X9_32 dX9_peek_12 h_m rfl ?_
    refine vv_aload_n hC 0 dX9_peek_15 rfl rfl ?_
    refine vv_get (v := .int (nI x_at)) hC fl_X9_98 dX9_peek_16 h_m rfl ?_
    refine vv_ialdn (t := x_at) hC dX9_peek_19 h_text (by omega) (by decide) ?_
    refine vv_i2l hC dX9_peek_20 ?_
    refine vv_ldc2 (v := (48)) hC lk_l_X9_101 dX9_peek_21 ?_
    refine vv_ldc2 (v := (57)) hC lk_l_X9_103 dX9_peek_24 ?_
    refine vv_callS hC dX9_peek_27 md_X9_in lk_m_X9_76 lk_t_X9_in (As := [.long ((text x_at).toInt64), .long 48, .long 57]) (rest := []) (c_X9_in g w0 ((text x_at).toInt64) 48 57) rfl rfl (Nat.le_of_ble_eq_true rfl) ⟨by decide, by decide, by decide, by decide⟩ (fun r w9 hq => ?_)
    obtain ⟨rfl, rfl⟩ := hq
    show V g X 1 w0 0 0 30 [(0, .ref (B 0))] [.int (bI (f_X9_in ((text x_at).toInt64) 48 57))]
    refine vv_if_eq hC 48 dX9_peek_30 (by decide) (fun c3 => ?_) (fun c3 => ?_)
    · have c3 : ¬ (f_X9_in ((text x_at).toInt64) 48 57 = true) := bI_f c3
      refine vv_bipush (v := (-9)) hC dX9_peek_48 (by decide) ?_
      have hz := hJ2
      try simp only [if_neg c1, if_neg c3] at hz
      first | exact hz | (simp only [if_neg c1, if_neg c3]; exact hz)
    · have c3 : f_X9_in ((text x_at).toInt64) 48 57 = true := bI_t c3
      refine vv_aload_n hC 0 dX9_peek_33 rfl rfl ?_
      refine vv_get (v := .ref (B 12)) hC fl_X9_32 dX9_peek_34 h_m rfl ?_
      refine vv_aload_n hC 0 dX9_peek_37 rfl rfl ?_
      refine vv_get (v := .int (nI x_at)) hC fl_X9_98 dX9_peek_38 h_m rfl ?_
      refine vv_ialdn (t := x_at) hC dX9_peek_41 h_text (by omega) (by decide) ?_
      refine vv_bipush (v := (48)) hC dX9_peek_42 (by decide) ?_
      refine vv_isub hC dX9_peek_44 ?_
      refine vv_goto hC 50 dX9_peek_45 (by decide) ?_
      have hz := hJ2
      try simp only [if_neg c1, if_pos c3] at hz
      first | exact hz | (simp only [if_neg c1, if_pos c3]; exact hz)
def f_X9_takes (x_size : Nat) (x_at : Nat) (text : Nat → Int32) (p1 : Int32) : Bool × Nat := (f_X9_in ((f_X9_peek x_size x_at text).toInt64) 0 p1.toInt64, x_at + (if f_X9_in ((f_X9_peek x_size x_at text).toInt64) 0 p1.toInt64 = true then 1 else 0))
set_option maxHeartbeats 4000000 in
set_option maxRecDepth 100000 in
theorem c_X9_takes (g : GT) (w0 : Wd) (B : Nat → Nat) (hB : ∀ i j, i < 60 → j < 60 → B i = B j → i = j) (x_thrown : Int32) (x_houses : Nat) (x_people : Nat) (x_paths : Nat) (x_acts : Nat) (x_size : Nat) (x_at : Nat) (x_readHouses : Nat) (x_readPeople : Nat) (x_readPaths : Nat) (x_sights : Nat) (x_drawn : Int64) (text : Nat → Int32) (p1 : Int32) (hsz : x_size ≤ 96) (hat : x_at ≤ 96) (h_m : w0 (B 0) = some (.inr (9, cM B (x_thrown, x_houses, x_people, x_paths, x_acts, x_size, x_at, x_readHouses, x_readPeople, x_readPaths, x_sights, x_drawn)))) (h_text : w0 (B 12) = some (.inl (g.2.2.1 0, 96, .inl text))) : CT g yX9_takes cX9_takes 3 (some .boolean) 2 45 0 0 w0 [.ref (B 0), .int p1] (fun r w2 => r = some (.int (bI ((f_X9_takes x_size x_at text p1).1))) ∧ w2 (B 0) = some (.inr (9, cM B (x_thrown, x_houses, x_people, x_paths, x_acts, x_size, (f_X9_takes x_size x_at text p1).2, x_readHouses, x_readPeople, x_readPaths, x_sights, x_drawn))) ∧ wE (fun q => q = (B 0)) w0 w2) := by
  refine CT.of (own := RX9) (by decide +kernel) rfl (Nat.le_of_ble_eq_true rfl) (fun X hC hR hI => ?_)
  show V g X 3 w0 0 0 0 [(0, .ref (B 0)), (1, .int p1)] []
  have hE : wE (fun q => q = (B 0)) w0 w0 := wE.refl
  refine vv_aload_n hC 0 dX9_takes_0 rfl rfl ?_
  refine vv_callV hC dX9_takes_1 md_X9_peek lk_m_X9_105 lk_i_X9_peek lk_s_X9_peek h_m rfl (As := []) (rest := []) (c_X9_peek g w0 B hB x_thrown x_houses x_people x_paths x_acts x_size x_at x_readHouses x_readPeople x_readPaths x_sights x_drawn text (by omega) (by omega) h_m h_text) rfl rfl (Nat.le_of_ble_eq_true rfl) ⟨by decide, by decide, by decide, by decide⟩ (fun r w9 hq => ?_)
  obtain ⟨rfl, rfl⟩ := hq
  show V g X 3 w0 0 0 4 [(0, .ref (B 0)), (1, .int p1)] [.int (f_X9_peek x_size x_at text)]
  refine vv_i2l hC dX9_takes_4 ?_
  refine vv_lconst (v := 0) hC dX9_takes_5 (by decide) ?_
  refine vv_iload_n hC 1 dX9_takes_6 rfl rfl ?_
  refine vv_i2l hC dX9_takes_7 ?_
  refine vv_callS hC dX9_takes_8 md_X9_in lk_m_X9_76 lk_t_X9_in (As := [.long ((f_X9_peek x_size x_at text).toInt64), .long 0, .long p1.toInt64]) (rest := []) (c_X9_in g w0 ((f_X9_peek x_size x_at text).toInt64) 0 p1.toInt64) rfl rfl (Nat.le_of_ble_eq_true rfl) ⟨by decide, by decide, by decide, by decide⟩ (fun r w9 hq => ?_)
  obtain ⟨rfl, rfl⟩ := hq
  show V g X 3 w0 0 0 11 [(0, .ref (B 0)), (1, .int p1)] [.int (bI (f_X9_in ((f_X9_peek x_size x_at text).toInt64) 0 p1.toInt64))]
  refine vv_istore_n (lv2 := [(2, .int (bI (f_X9_in ((f_X9_peek x_size x_at text).toInt64) 0 p1.toInt64))), (0, .ref (B 0)), (1, .int p1)]) hC dX9_takes_11 rfl (by decide) rfl ?_
  refine vv_aload_n hC 1 dX9_takes_12 rfl rfl ?_
  refine vv_dup hC dX9_takes_13 rfl ?_
  refine vv_get (v := .int (nI x_at)) hC fl_X9_98 dX9_takes_14 h_m rfl ?_
  refine vv_iload_n hC 0 dX9_takes_17 rfl rfl ?_
  have hJ2 : V g X 3 w0 0 0 26 [(0, .ref (B 0)), (1, .int p1), (2, .int (bI (f_X9_in ((f_X9_peek x_size x_at text).toInt64) 0 p1.toInt64)))] [.int (nI (if f_X9_in ((f_X9_peek x_size x_at text).toInt64) 0 p1.toInt64 = true then 1 else 0)), .int (nI x_at), .ref (B 0)] := by
    refine vv_iadd hC dX9_takes_26 ?_
    refine vv_topi (nI (x_at + (if f_X9_in ((f_X9_peek x_size x_at text).toInt64) 0 p1.toInt64 = true then 1 else 0))) (nI_add x_at (if f_X9_in ((f_X9_peek x_size x_at text).toInt64) 0 p1.toInt64 = true then 1 else 0)) ?_
    refine vv_put hC fp_X9_98 dX9_takes_27 h_m rfl rfl (Nat.le_of_ble_eq_true rfl) (fun w3 t1 hs => ?_)
    have t1 : w3 (B 0) = some (.inr (9, cM B (x_thrown, x_houses, x_people, x_paths, x_acts, x_size, x_at + (if f_X9_in ((f_X9_peek x_size x_at text).toInt64) 0 p1.toInt64 = true then 1 else 0), x_readHouses, x_readPeople, x_readPaths, x_sights, x_drawn))) := t1.trans (congrArg (fun z => some (Sum.inr (9, z))) (eM_at _ _ _ _ _ _ _ _ _ _ _ _ _ _))
    have h_text := hs _ _ (fw_ao h_text h_m) h_text
    have h_m := t1
    have hE := hE.trans (hs.mono (fun _ z => z))
    refine vv_iload_n hC 2 dX9_takes_30 rfl rfl ?_
    have hf : (f_X9_takes x_size x_at text p1) = (f_X9_in ((f_X9_peek x_size x_at text).toInt64) 0 p1.toInt64, x_at + (if f_X9_in ((f_X9_peek x_size x_at text).toInt64) 0 p1.toInt64 = true then 1 else 0)) := by first | (simp only [f_X9_takes]; done) | rfl | (simp only [f_X9_takes]; rfl)
    refine vv_zret hC hR rfl (bI_nar _) dX9_takes_31 (by omega) (by omega) ?_
    rw [hf]
    try dsimp only
    exact ⟨rfl, h_m, hE⟩
  refine vv_if_eq hC 25 dX9_takes_18 (by decide) (fun c1 => ?_) (fun c1 => ?_)
  · have c1 : ¬ (f_X9_in ((f_X9_peek x_size x_at text).toInt64) 0 p1.toInt64 = true) := bI_f c1
    refine vv_iconst (v := 0) hC dX9_takes_25 (by decide) ?_
    refine vv_lv [1, 2, 0] rfl ?_
    have hz := hJ2
    try simp only [if_neg c1] at hz
    first | exact hz | (simp only [if_neg c1]; exact hz)
  · have c1 : f_X9_in ((f_X9_peek x_size x_at text).toInt64) 0 p1.toInt64 = true := bI_t c1
    refine vv_iconst (v := 1) hC dX9_takes_21 (by decide) ?_
    refine vv_goto hC 26 dX9_takes_22 (by decide) ?_
    refine vv_lv [1, 2, 0] rfl ?_
    have hz := hJ2
    try simp only [if_pos c1] at hz
    first | exact hz | (simp only [if_pos c1]; exact hz)
def f_X9_hasWay_L4 (readPath : Nat → Int32) (p1 : Nat) : Nat → Nat → Bool → Bool
  | 0, k4, l2_4 => l2_4
  | r4 + 1, k4, l2_4 => f_X9_hasWay_L4 readPath p1 r4 (k4 + 1) (if l2_4 = true then true else (if k4 = p1 then false else (if readPath (4 * p1 + k4) = 0 then true else false)))
def f_X9_hasWay (x_readHouses : Nat) (readPath : Nat → Int32) (p1 : Nat) : Bool := (f_X9_hasWay_L4 readPath p1 x_readHouses 0 false)
set_option maxHeartbeats 4000000 in
set_option maxRecDepth 100000 in
theorem c_X9_hasWay (g : GT) (w0 : Wd) (B : Nat → Nat) (hB : ∀ i j, i < 60 → j < 60 → B i = B j → i = j) (x_thrown : Int32) (x_houses : Nat) (x_people : Nat) (x_paths : Nat) (x_acts : Nat) (x_size : Nat) (x_at : Nat) (x_readHouses : Nat) (x_readPeople : Nat) (x_readPaths : Nat) (x_sights : Nat) (x_drawn : Int64) (readPath : Nat → Int32) (p1 : Nat) (ha : p1 < 4) (hrh : x_readHouses ≤ 4) (h_m : w0 (B 0) = some (.inr (9, cM B (x_thrown, x_houses, x_people, x_paths, x_acts, x_size, x_at, x_readHouses, x_readPeople, x_readPaths, x_sights, x_drawn)))) (h_readPath : w0 (B 18) = some (.inl (g.2.2.1 0, 16, .inl readPath))) : CT g yX9_hasWay cX9_hasWay 4 (some .boolean) 0 0 0 0 w0 [.ref (B 0), .int (nI p1)] (fun r w2 => r = some (.int (bI (f_X9_hasWay x_readHouses readPath p1))) ∧ w0 = w2) := by
  refine CT.of (own := RX9) (by decide +kernel) rfl (Nat.le_of_ble_eq_true rfl) (fun X hC hR hI => ?_)
  show V g X 4 w0 0 0 0 [(0, .ref (B 0)), (1, .int (nI p1))] []
  refine vv_iconst (v := 0) hC dX9_hasWay_0 (by decide) ?_
  refine vv_istore_n (lv2 := [(2, .int 0), (0, .ref (B 0)), (1, .int (nI p1))]) hC dX9_hasWay_1 rfl (by decide) rfl ?_
  refine vv_iconst (v := 0) hC dX9_hasWay_2 (by decide) ?_
  refine vv_istore_n (lv2 := [(3, .int 0), (2, .int 0), (0, .ref (B 0)), (1, .int (nI p1))]) hC dX9_hasWay_3 rfl (by decide) rfl ?_
  have hL5 : ∀ (r4 k4 : Nat) (l2_4 : Bool) (out : Bool), k4 + r4 = x_readHouses → out = f_X9_hasWay_L4 readPath p1 r4 k4 l2_4 → V g X 4 w0 0 0 46 [(0, .ref (B 0)), (1, .int (nI p1)), (2, .int (bI out))] [] → V g X 4 w0 0 0 4 [(0, .ref (B 0)), (1, .int (nI p1)), (2, .int (bI l2_4)), (3, .int (nI k4))] [] := by
    intro r4
    induction r4 with
    | zero =>
      intro k4 l2_4 out hb ho hk
      refine vv_iload_n hC 3 dX9_hasWay_4 rfl rfl ?_
      refine vv_aload_n hC 0 dX9_hasWay_5 rfl rfl ?_
      refine vv_get (v := .int (nI x_readHouses)) hC fl_X9_109 dX9_hasWay_6 h_m rfl ?_
      refine vv_icmp_ge hC 46 dX9_hasWay_9 (by decide) (fun c => ?_) (fun c => False.elim (c ((nI_le_ (a := x_readHouses) (b := k4) (by omega) (by omega)).mpr (by omega))))
      refine vv_lv [0, 1, 2] rfl ?_
      have ho := ho.trans (by first | (simp only [f_X9_hasWay_L4]; done) | rfl | (simp only [f_X9_hasWay_L4]; rfl) : _ = l2_4)
      subst ho
      exact hk
    | succ r4 ih =>
      intro k4 l2_4 out hb ho hk
      refine vv_iload_n hC 3 dX9_hasWay_4 rfl rfl ?_
      refine vv_aload_n hC 0 dX9_hasWay_5 rfl rfl ?_
      refine vv_get (v := .int (nI x_readHouses)) hC fl_X9_109 dX9_hasWay_6 h_m rfl ?_
      refine vv_icmp_ge hC 46 dX9_hasWay_9 (by decide) (fun c => absurd ((nI_le_ (a := x_readHouses) (b := k4) (by omega) (by omega)).mp c) (by first | omega | decide)) (fun c => ?_)
      refine vv_iload_n hC 2 dX9_hasWay_12 rfl rfl ?_
      have hJ2 : V g X 4 w0 0 0 39 [(0, .ref (B 0)), (1, .int (nI p1)), (2, .int (bI l2_4)), (3, .int (nI k4))] [.int (bI (if l2_4 = true then true else (if k4 = p1 then false else (if readPath (4 * p1 + k4) = 0 then true else false))))] := by
        refine vv_istore_n (lv2 := [(2, .int (bI (if l2_4 = true then true else (if k4 = p1 then false else (if readPath (4 * p1 + k4) = 0 then true else false))))), (0, .ref (B 0)), (1, .int (nI p1)), (3, .int (nI k4))]) hC dX9_hasWay_39 rfl (by decide) rfl ?_
        refine vv_iinc (lv2 := [(3, .int (nI (k4 + 1))), (2, .int (bI (if l2_4 = true then true else (if k4 = p1 then false else (if readPath (4 * p1 + k4) = 0 then true else false))))), (0, .ref (B 0)), (1, .int (nI p1))]) hC 3 dX9_hasWay_40 rfl (nI_add k4 1) (by decide) rfl ?_
        refine vv_goto hC 4 dX9_hasWay_43 (by decide) ?_
        refine vv_lv [2, 3, 1, 0] rfl ?_
        exact ih (k4 + 1) (if l2_4 = true then true else (if k4 = p1 then false else (if readPath (4 * p1 + k4) = 0 then true else false))) out (by omega) (ho.trans (by first | (simp only [f_X9_hasWay_L4]; done) | rfl | (simp only [f_X9_hasWay_L4]; rfl))) hk
      refine vv_if_ne hC 34 dX9_hasWay_13 (by decide) (fun c1 => ?_) (fun c1 => ?_)
      · have c1 : l2_4 = true := bI_t c1
        refine vv_iconst (v := 1) hC dX9_hasWay_34 (by decide) ?_
        refine vv_goto hC 39 dX9_hasWay_35 (by decide) ?_
        have hz := hJ2
        try simp only [if_pos c1] at hz
        first | exact hz | (simp only [if_pos c1]; exact hz)
      · have c1 : ¬ (l2_4 = true) := bI_f c1
        refine vv_iload_n hC 3 dX9_hasWay_16 rfl rfl ?_
        refine vv_iload_n hC 1 dX9_hasWay_17 rfl rfl ?_
        refine vv_icmp_eq hC 38 dX9_hasWay_18 (by decide) (fun c3 => ?_) (fun c3 => ?_)
        · have c3 : k4 = p1 := (nI_eq_ (a := k4) (b := p1) (by omega) (by omega)).mp c3
          refine vv_iconst (v := 0) hC dX9_hasWay_38 (by decide) ?_
          have hz := hJ2
          try simp only [if_neg c1, if_pos c3] at hz
          first | exact hz | (simp only [if_neg c1, if_pos c3]; exact hz)
        · have c3 : ¬ (k4 = p1) := fun z => c3 ((nI_eq_ (a := k4) (b := p1) (by omega) (by omega)).mpr z)
          refine vv_aload_n hC 0 dX9_hasWay_21 rfl rfl ?_
          refine vv_get (v := .ref (B 18)) hC fl_X9_35 dX9_hasWay_22 h_m rfl ?_
          refine vv_iconst (v := 4) hC dX9_hasWay_25 (by decide) ?_
          refine vv_iload_n hC 1 dX9_hasWay_26 rfl rfl ?_
          refine vv_imul hC dX9_hasWay_27 ?_
          refine vv_topi (nI (4 * p1)) (pk_mul 4 p1) ?_
          refine vv_iload_n hC 3 dX9_hasWay_28 rfl rfl ?_
          refine vv_iadd hC dX9_hasWay_29 ?_
          refine vv_topi (nI (4 * p1 + k4)) (nI_add (4 * p1) k4) ?_
          refine vv_ialdn (t := 4 * p1 + k4) hC dX9_hasWay_30 h_readPath (by omega) (by decide) ?_
          refine vv_if_ne hC 38 dX9_hasWay_31 (by decide) (fun c4 => ?_) (fun c4 => ?_)
          · have c4 : ¬ (readPath (4 * p1 + k4) = 0) := c4
            refine vv_iconst (v := 0) hC dX9_hasWay_38 (by decide) ?_
            have hz := hJ2
            try simp only [if_neg c1, if_neg c3, if_neg c4] at hz
            first | exact hz | (simp only [if_neg c1, if_neg c3, if_neg c4]; exact hz)
          · have c4 : readPath (4 * p1 + k4) = 0 := c4
            refine vv_iconst (v := 1) hC dX9_hasWay_34 (by decide) ?_
            refine vv_goto hC 39 dX9_hasWay_35 (by decide) ?_
            have hz := hJ2
            try simp only [if_neg c1, if_neg c3, if_pos c4] at hz
            first | exact hz | (simp only [if_neg c1, if_neg c3, if_pos c4]; exact hz)
  refine vv_lv [2, 3, 1, 0] rfl ?_
  refine hL5 x_readHouses 0 false (f_X9_hasWay_L4 readPath p1 x_readHouses 0 false) (by omega) rfl ?_
  refine vv_iload_n hC 2 dX9_hasWay_46 rfl rfl ?_
  have hf : (f_X9_hasWay x_readHouses readPath p1) = (f_X9_hasWay_L4 readPath p1 x_readHouses 0 false) := by first | (simp only [f_X9_hasWay]; done) | rfl | (simp only [f_X9_hasWay]; rfl)
  refine vv_zret hC hR rfl (bI_nar _) dX9_hasWay_47 (by omega) (by omega) ?_
  rw [hf]
  exact ⟨rfl, rfl⟩
def f_X9_hasAnyWay_L4 (x_readHouses : Nat) (readPath : Nat → Int32) : Nat → Nat → Bool → Bool
  | 0, k4, l1_4 => l1_4
  | r4 + 1, k4, l1_4 => f_X9_hasAnyWay_L4 x_readHouses readPath r4 (k4 + 1) (if l1_4 = true then true else (if f_X9_hasWay x_readHouses readPath k4 = true then true else false))
def f_X9_hasAnyWay (x_readHouses : Nat) (readPath : Nat → Int32) : Bool := (f_X9_hasAnyWay_L4 x_readHouses readPath x_readHouses 0 false)
set_option maxHeartbeats 4000000 in
set_option maxRecDepth 100000 in
theorem c_X9_hasAnyWay (g : GT) (w0 : Wd) (B : Nat → Nat) (hB : ∀ i j, i < 60 → j < 60 → B i = B j → i = j) (x_thrown : Int32) (x_houses : Nat) (x_people : Nat) (x_paths : Nat) (x_acts : Nat) (x_size : Nat) (x_at : Nat) (x_readHouses : Nat) (x_readPeople : Nat) (x_readPaths : Nat) (x_sights : Nat) (x_drawn : Int64) (readPath : Nat → Int32) (hrh : x_readHouses ≤ 4) (h_m : w0 (B 0) = some (.inr (9, cM B (x_thrown, x_houses, x_people, x_paths, x_acts, x_size, x_at, x_readHouses, x_readPeople, x_readPaths, x_sights, x_drawn)))) (h_readPath : w0 (B 18) = some (.inl (g.2.2.1 0, 16, .inl readPath))) : CT g yX9_hasAnyWay cX9_hasAnyWay 3 (some .boolean) 1 23 0 0 w0 [.ref (B 0)] (fun r w2 => r = some (.int (bI (f_X9_hasAnyWay x_readHouses readPath))) ∧ w0 = w2) := by
  refine CT.of (own := RX9) (by decide +kernel) rfl (Nat.le_of_ble_eq_true rfl) (fun X hC hR hI => ?_)
  show V g X 3 w0 0 0 0 [(0, .ref (B 0))] []
  refine vv_iconst (v := 0) hC dX9_hasAnyWay_0 (by decide) ?_
  refine vv_istore_n (lv2 := [(1, .int 0), (0, .ref (B 0))]) hC dX9_hasAnyWay_1 rfl (by decide) rfl ?_
  refine vv_iconst (v := 0) hC dX9_hasAnyWay_2 (by decide) ?_
  refine vv_istore_n (lv2 := [(2, .int 0), (1, .int 0), (0, .ref (B 0))]) hC dX9_hasAnyWay_3 rfl (by decide) rfl ?_
  have hL4 : ∀ (r4 k4 : Nat) (l1_4 : Bool) (out : Bool), k4 + r4 = x_readHouses → out = f_X9_hasAnyWay_L4 x_readHouses readPath r4 k4 l1_4 → V g X 3 w0 0 0 36 [(0, .ref (B 0)), (1, .int (bI out))] [] → V g X 3 w0 0 0 4 [(0, .ref (B 0)), (1, .int (bI l1_4)), (2, .int (nI k4))] [] := by
    intro r4
    induction r4 with
    | zero =>
      intro k4 l1_4 out hb ho hk
      refine vv_iload_n hC 2 dX9_hasAnyWay_4 rfl rfl ?_
      refine vv_aload_n hC 0 dX9_hasAnyWay_5 rfl rfl ?_
      refine vv_get (v := .int (nI x_readHouses)) hC fl_X9_109 dX9_hasAnyWay_6 h_m rfl ?_
      refine vv_icmp_ge hC 36 dX9_hasAnyWay_9 (by decide) (fun c => ?_) (fun c => False.elim (c ((nI_le_ (a := x_readHouses) (b := k4) (by omega) (by omega)).mpr (by omega))))
      refine vv_lv [0, 1] rfl ?_
      have ho := ho.trans (by first | (simp only [f_X9_hasAnyWay_L4]; done) | rfl | (simp only [f_X9_hasAnyWay_L4]; rfl) : _ = l1_4)
      subst ho
      exact hk
    | succ r4 ih =>
      intro k4 l1_4 out hb ho hk
      refine vv_iload_n hC 2 dX9_hasAnyWay_4 rfl rfl ?_
      refine vv_aload_n hC 0 dX9_hasAnyWay_5 rfl rfl ?_
      refine vv_get (v := .int (nI x_readHouses)) hC fl_X9_109 dX9_hasAnyWay_6 h_m rfl ?_
      refine vv_icmp_ge hC 36 dX9_hasAnyWay_9 (by decide) (fun c => absurd ((nI_le_ (a := x_readHouses) (b := k4) (by omega) (by omega)).mp c) (by first | omega | decide)) (fun c => ?_)
      refine vv_iload_n hC 1 dX9_hasAnyWay_12 rfl rfl ?_
      have hJ2 : V g X 3 w0 0 0 29 [(0, .ref (B 0)), (1, .int (bI l1_4)), (2, .int (nI k4))] [.int (bI (if l1_4 = true then true else (if f_X9_hasWay x_readHouses readPath k4 = true then true else false)))] := by
        refine vv_istore_n (lv2 := [(1, .int (bI (if l1_4 = true then true else (if f_X9_hasWay x_readHouses readPath k4 = true then true else false)))), (0, .ref (B 0)), (2, .int (nI k4))]) hC dX9_hasAnyWay_29 rfl (by decide) rfl ?_
        refine vv_iinc (lv2 := [(2, .int (nI (k4 + 1))), (1, .int (bI (if l1_4 = true then true else (if f_X9_hasWay x_readHouses readPath k4 = true then true else false)))), (0, .ref (B 0))]) hC 2 dX9_hasAnyWay_30 rfl (nI_add k4 1) (by decide) rfl ?_
        refine vv_goto hC 4 dX9_hasAnyWay_33 (by decide) ?_
        refine vv_lv [2, 1, 0] rfl ?_
        exact ih (k4 + 1) (if l1_4 = true then true else (if f_X9_hasWay x_readHouses readPath k4 = true then true else false)) out (by omega) (ho.trans (by first | (simp only [f_X9_hasAnyWay_L4]; done) | rfl | (simp only [f_X9_hasAnyWay_L4]; rfl))) hk
      refine vv_if_ne hC 24 dX9_hasAnyWay_13 (by decide) (fun c1 => ?_) (fun c1 => ?_)
      · have c1 : l1_4 = true := bI_t c1
        refine vv_iconst (v := 1) hC dX9_hasAnyWay_24 (by decide) ?_
        refine vv_goto hC 29 dX9_hasAnyWay_25 (by decide) ?_
        have hz := hJ2
        try simp only [if_pos c1] at hz
        first | exact hz | (simp only [if_pos c1]; exact hz)
      · have c1 : ¬ (l1_4 = true) := bI_f c1
        refine vv_aload_n hC 0 dX9_hasAnyWay_16 rfl rfl ?_
        refine vv_iload_n hC 2 dX9_hasAnyWay_17 rfl rfl ?_
        refine vv_callV hC dX9_hasAnyWay_18 md_X9_hasWay lk_m_X9_112 lk_i_X9_hasWay lk_s_X9_hasWay h_m rfl (As := [.int (nI k4)]) (rest := []) (c_X9_hasWay g w0 B hB x_thrown x_houses x_people x_paths x_acts x_size x_at x_readHouses x_readPeople x_readPaths x_sights x_drawn readPath k4 (by omega) (by omega) h_m h_readPath) rfl rfl (Nat.le_of_ble_eq_true rfl) ⟨by decide, by decide, by decide, by decide⟩ (fun r w9 hq => ?_)
        obtain ⟨rfl, rfl⟩ := hq
        show V g X 3 w0 0 0 21 [(0, .ref (B 0)), (1, .int (bI l1_4)), (2, .int (nI k4))] [.int (bI (f_X9_hasWay x_readHouses readPath k4))]
        refine vv_if_eq hC 28 dX9_hasAnyWay_21 (by decide) (fun c3 => ?_) (fun c3 => ?_)
        · have c3 : ¬ (f_X9_hasWay x_readHouses readPath k4 = true) := bI_f c3
          refine vv_iconst (v := 0) hC dX9_hasAnyWay_28 (by decide) ?_
          have hz := hJ2
          try simp only [if_neg c1, if_neg c3] at hz
          first | exact hz | (simp only [if_neg c1, if_neg c3]; exact hz)
        · have c3 : f_X9_hasWay x_readHouses readPath k4 = true := bI_t c3
          refine vv_iconst (v := 1) hC dX9_hasAnyWay_24 (by decide) ?_
          refine vv_goto hC 29 dX9_hasAnyWay_25 (by decide) ?_
          have hz := hJ2
          try simp only [if_neg c1, if_pos c3] at hz
          first | exact hz | (simp only [if_neg c1, if_pos c3]; exact hz)
  refine vv_lv [2, 1, 0] rfl ?_
  refine hL4 x_readHouses 0 false (f_X9_hasAnyWay_L4 x_readHouses readPath x_readHouses 0 false) (by omega) rfl ?_
  refine vv_iload_n hC 1 dX9_hasAnyWay_36 rfl rfl ?_
  have hf : (f_X9_hasAnyWay x_readHouses readPath) = (f_X9_hasAnyWay_L4 x_readHouses readPath x_readHouses 0 false) := by first | (simp only [f_X9_hasAnyWay]; done) | rfl | (simp only [f_X9_hasAnyWay]; rfl)
  refine vv_zret hC hR rfl (bI_nar _) dX9_hasAnyWay_37 (by omega) (by omega) ?_
  rw [hf]
  exact ⟨rfl, rfl⟩
def f_X9_hasOther (x_readPeople : Nat) (readKin : Nat → Int32) (p1 : Nat) : Bool := (if (readKin p1 ||| ((1 : Int32) <<< (nI p1 &&& 31))) = (((1 : Int32) <<< (nI x_readPeople &&& 31)) - 1) then false else true)
set_option maxHeartbeats 4000000 in
set_option maxRecDepth 100000 in
theorem c_X9_hasOther (g : GT) (w0 : Wd) (B : Nat → Nat) (hB : ∀ i j, i < 60 → j < 60 → B i = B j → i = j) (x_thrown : Int32) (x_houses : Nat) (x_people : Nat) (x_paths : Nat) (x_acts : Nat) (x_size : Nat) (x_at : Nat) (x_readHouses : Nat) (x_readPeople : Nat) (x_readPaths : Nat) (x_sights : Nat) (x_drawn : Int64) (readKin : Nat → Int32) (p1 : Nat) (hi : p1 < 6) (h_m : w0 (B 0) = some (.inr (9, cM B (x_thrown, x_houses, x_people, x_paths, x_acts, x_size, x_at, x_readHouses, x_readPeople, x_readPaths, x_sights, x_drawn)))) (h_readKin : w0 (B 20) = some (.inl (g.2.2.1 0, 6, .inl readKin))) : CT g yX9_hasOther cX9_hasOther 2 (some .boolean) 0 0 0 0 w0 [.ref (B 0), .int (nI p1)] (fun r w2 => r = some (.int (bI (f_X9_hasOther x_readPeople readKin p1))) ∧ w0 = w2) := by
  refine CT.of (own := RX9) (by decide +kernel) rfl (Nat.le_of_ble_eq_true rfl) (fun X hC hR hI => ?_)
  show V g X 2 w0 0 0 0 [(0, .ref (B 0)), (1, .int (nI p1))] []
  refine vv_aload_n hC 0 dX9_hasOther_0 rfl rfl ?_
  refine vv_get (v := .ref (B 20)) hC fl_X9_41 dX9_hasOther_1 h_m rfl ?_
  refine vv_iload_n hC 1 dX9_hasOther_4 rfl rfl ?_
  refine vv_ialdn (t := p1) hC dX9_hasOther_5 h_readKin (by omega) (by decide) ?_
  refine vv_iconst (v := 1) hC dX9_hasOther_6 (by decide) ?_
  refine vv_iload_n hC 1 dX9_hasOther_7 rfl rfl ?_
  refine vv_ishl hC dX9_hasOther_8 ?_
  refine vv_ior hC dX9_hasOther_9 ?_
  refine vv_iconst (v := 1) hC dX9_hasOther_10 (by decide) ?_
  refine vv_aload_n hC 0 dX9_hasOther_11 rfl rfl ?_
  refine vv_get (v := .int (nI x_readPeople)) hC fl_X9_115 dX9_hasOther_12 h_m rfl ?_
  refine vv_ishl hC dX9_hasOther_15 ?_
  refine vv_iconst (v := 1) hC dX9_hasOther_16 (by decide) ?_
  refine vv_isub hC dX9_hasOther_17 ?_
  have hJ2 : V g X 2 w0 0 0 26 [(0, .ref (B 0)), (1, .int (nI p1))] [.int (bI (if (readKin p1 ||| ((1 : Int32) <<< (nI p1 &&& 31))) = (((1 : Int32) <<< (nI x_readPeople &&& 31)) - 1) then false else true))] := by
    have hf : (f_X9_hasOther x_readPeople readKin p1) = (if (readKin p1 ||| ((1 : Int32) <<< (nI p1 &&& 31))) = (((1 : Int32) <<< (nI x_readPeople &&& 31)) - 1) then false else true) := by first | (simp only [f_X9_hasOther]; done) | rfl | (simp only [f_X9_hasOther]; rfl)
    refine vv_zret hC hR rfl (bI_nar _) dX9_hasOther_26 (by omega) (by omega) ?_
    rw [hf]
    exact ⟨rfl, rfl⟩
  refine vv_icmp_eq hC 25 dX9_hasOther_18 (by decide) (fun c1 => ?_) (fun c1 => ?_)
  · have c1 : (readKin p1 ||| ((1 : Int32) <<< (nI p1 &&& 31))) = (((1 : Int32) <<< (nI x_readPeople &&& 31)) - 1) := c1
    refine vv_iconst (v := 0) hC dX9_hasOther_25 (by decide) ?_
    have hz := hJ2
    try simp only [if_pos c1] at hz
    first | exact hz | (simp only [if_pos c1]; exact hz)
  · have c1 : ¬ ((readKin p1 ||| ((1 : Int32) <<< (nI p1 &&& 31))) = (((1 : Int32) <<< (nI x_readPeople &&& 31)) - 1)) := c1
    refine vv_iconst (v := 1) hC dX9_hasOther_21 (by decide) ?_
    refine vv_goto hC 26 dX9_hasOther_22 (by decide) ?_
    have hz := hJ2
    try simp only [if_neg c1] at hz
    first | exact hz | (simp only [if_neg c1]; exact hz)
def f_X9_hasAnyOther_L4 (x_readPeople : Nat) (readKin : Nat → Int32) : Nat → Nat → Bool → Bool
  | 0, k4, l1_4 => l1_4
  | r4 + 1, k4, l1_4 => f_X9_hasAnyOther_L4 x_readPeople readKin r4 (k4 + 1) (if l1_4 = true then true else (if f_X9_hasOther x_readPeople readKin k4 = true then true else false))
def f_X9_hasAnyOther (x_readPeople : Nat) (readKin : Nat → Int32) : Bool := (f_X9_hasAnyOther_L4 x_readPeople readKin x_readPeople 0 false)
set_option maxHeartbeats 4000000 in
set_option maxRecDepth 100000 in
theorem c_X9_hasAnyOther (g : GT) (w0 : Wd) (B : Nat → Nat) (hB : ∀ i j, i < 60 → j < 60 → B i = B j → i = j) (x_thrown : Int32) (x_houses : Nat) (x_people : Nat) (x_paths : Nat) (x_acts : Nat) (x_size : Nat) (x_at : Nat) (x_readHouses : Nat) (x_readPeople : Nat) (x_readPaths : Nat) (x_sights : Nat) (x_drawn : Int64) (readKin : Nat → Int32) (hrp : x_readPeople ≤ 6) (h_m : w0 (B 0) = some (.inr (9, cM B (x_thrown, x_houses, x_people, x_paths, x_acts, x_size, x_at, x_readHouses, x_readPeople, x_readPaths, x_sights, x_drawn)))) (h_readKin : w0 (B 20) = some (.inl (g.2.2.1 0, 6, .inl readKin))) : CT g yX9_hasAnyOther cX9_hasAnyOther 3 (some .boolean) 1 21 0 0 w0 [.ref (B 0)] (fun r w2 => r = some (.int (bI (f_X9_hasAnyOther x_readPeople readKin))) ∧ w0 = w2) := by
  refine CT.of (own := RX9) (by decide +kernel) rfl (Nat.le_of_ble_eq_true rfl) (fun X hC hR hI => ?_)
  show V g X 3 w0 0 0 0 [(0, .ref (B 0))] []
  refine vv_iconst (v := 0) hC dX9_hasAnyOther_0 (by decide) ?_
  refine vv_istore_n (lv2 := [(1, .int 0), (0, .ref (B 0))]) hC dX9_hasAnyOther_1 rfl (by decide) rfl ?_
  refine vv_iconst (v := 0) hC dX9_hasAnyOther_2 (by decide) ?_
  refine vv_istore_n (lv2 := [(2, .int 0), (1, .int 0), (0, .ref (B 0))]) hC dX9_hasAnyOther_3 rfl (by decide) rfl ?_
  have hL4 : ∀ (r4 k4 : Nat) (l1_4 : Bool) (out : Bool), k4 + r4 = x_readPeople → out = f_X9_hasAnyOther_L4 x_readPeople readKin r4 k4 l1_4 → V g X 3 w0 0 0 36 [(0, .ref (B 0)), (1, .int (bI out))] [] → V g X 3 w0 0 0 4 [(0, .ref (B 0)), (1, .int (bI l1_4)), (2, .int (nI k4))] [] := by
    intro r4
    induction r4 with
    | zero =>
      intro k4 l1_4 out hb ho hk
      refine vv_iload_n hC 2 dX9_hasAnyOther_4 rfl rfl ?_
      refine vv_aload_n hC 0 dX9_hasAnyOther_5 rfl rfl ?_
      refine vv_get (v := .int (nI x_readPeople)) hC fl_X9_115 dX9_hasAnyOther_6 h_m rfl ?_
      refine vv_icmp_ge hC 36 dX9_hasAnyOther_9 (by decide) (fun c => ?_) (fun c => False.elim (c ((nI_le_ (a := x_readPeople) (b := k4) (by omega) (by omega)).mpr (by omega))))
      refine vv_lv [0, 1] rfl ?_
      have ho := ho.trans (by first | (simp only [f_X9_hasAnyOther_L4]; done) | rfl | (simp only [f_X9_hasAnyOther_L4]; rfl) : _ = l1_4)
      subst ho
      exact hk
    | succ r4 ih =>
      intro k4 l1_4 out hb ho hk
      refine vv_iload_n hC 2 dX9_hasAnyOther_4 rfl rfl ?_
      refine vv_aload_n hC 0 dX9_hasAnyOther_5 rfl rfl ?_
      refine vv_get (v := .int (nI x_readPeople)) hC fl_X9_115 dX9_hasAnyOther_6 h_m rfl ?_
      refine vv_icmp_ge hC 36 dX9_hasAnyOther_9 (by decide) (fun c => absurd ((nI_le_ (a := x_readPeople) (b := k4) (by omega) (by omega)).mp c) (by first | omega | decide)) (fun c => ?_)
      refine vv_iload_n hC 1 dX9_hasAnyOther_12 rfl rfl ?_
      have hJ2 : V g X 3 w0 0 0 29 [(0, .ref (B 0)), (1, .int (bI l1_4)), (2, .int (nI k4))] [.int (bI (if l1_4 = true then true else (if f_X9_hasOther x_readPeople readKin k4 = true then true else false)))] := by
        refine vv_istore_n (lv2 := [(1, .int (bI (if l1_4 = true then true else (if f_X9_hasOther x_readPeople readKin k4 = true then true else false)))), (0, .ref (B 0)), (2, .int (nI k4))]) hC dX9_hasAnyOther_29 rfl (by decide) rfl ?_
        refine vv_iinc (lv2 := [(2, .int (nI (k4 + 1))), (1, .int (bI (if l1_4 = true then true else (if f_X9_hasOther x_readPeople readKin k4 = true then true else false)))), (0, .ref (B 0))]) hC 2 dX9_hasAnyOther_30 rfl (nI_add k4 1) (by decide) rfl ?_
        refine vv_goto hC 4 dX9_hasAnyOther_33 (by decide) ?_
        refine vv_lv [2, 1, 0] rfl ?_
        exact ih (k4 + 1) (if l1_4 = true then true else (if f_X9_hasOther x_readPeople readKin k4 = true then true else false)) out (by omega) (ho.trans (by first | (simp only [f_X9_hasAnyOther_L4]; done) | rfl | (simp only [f_X9_hasAnyOther_L4]; rfl))) hk
      refine vv_if_ne hC 24 dX9_hasAnyOther_13 (by decide) (fun c1 => ?_) (fun c1 => ?_)
      · have c1 : l1_4 = true := bI_t c1
        refine vv_iconst (v := 1) hC dX9_hasAnyOther_24 (by decide) ?_
        refine vv_goto hC 29 dX9_hasAnyOther_25 (by decide) ?_
        have hz := hJ2
        try simp only [if_pos c1] at hz
        first | exact hz | (simp only [if_pos c1]; exact hz)
      · have c1 : ¬ (l1_4 = true) := bI_f c1
        refine vv_aload_n hC 0 dX9_hasAnyOther_16 rfl rfl ?_
        refine vv_iload_n hC 2 dX9_hasAnyOther_17 rfl rfl ?_
        refine vv_callV hC dX9_hasAnyOther_18 md_X9_hasOther lk_m_X9_118 lk_i_X9_hasOther lk_s_X9_hasOther h_m rfl (As := [.int (nI k4)]) (rest := []) (c_X9_hasOther g w0 B hB x_thrown x_houses x_people x_paths x_acts x_size x_at x_readHouses x_readPeople x_readPaths x_sights x_drawn readKin k4 (by omega) h_m h_readKin) rfl rfl (Nat.le_of_ble_eq_true rfl) ⟨by decide, by decide, by decide, by decide⟩ (fun r w9 hq => ?_)
        obtain ⟨rfl, rfl⟩ := hq
        show V g X 3 w0 0 0 21 [(0, .ref (B 0)), (1, .int (bI l1_4)), (2, .int (nI k4))] [.int (bI (f_X9_hasOther x_readPeople readKin k4))]
        refine vv_if_eq hC 28 dX9_hasAnyOther_21 (by decide) (fun c3 => ?_) (fun c3 => ?_)
        · have c3 : ¬ (f_X9_hasOther x_readPeople readKin k4 = true) := bI_f c3
          refine vv_iconst (v := 0) hC dX9_hasAnyOther_28 (by decide) ?_
          have hz := hJ2
          try simp only [if_neg c1, if_neg c3] at hz
          first | exact hz | (simp only [if_neg c1, if_neg c3]; exact hz)
        · have c3 : f_X9_hasOther x_readPeople readKin k4 = true := bI_t c3
          refine vv_iconst (v := 1) hC dX9_hasAnyOther_24 (by decide) ?_
          refine vv_goto hC 29 dX9_hasAnyOther_25 (by decide) ?_
          have hz := hJ2
          try simp only [if_neg c1, if_pos c3] at hz
          first | exact hz | (simp only [if_neg c1, if_pos c3]; exact hz)
  refine vv_lv [2, 1, 0] rfl ?_
  refine hL4 x_readPeople 0 false (f_X9_hasAnyOther_L4 x_readPeople readKin x_readPeople 0 false) (by omega) rfl ?_
  refine vv_iload_n hC 1 dX9_hasAnyOther_36 rfl rfl ?_
  have hf : (f_X9_hasAnyOther x_readPeople readKin) = (f_X9_hasAnyOther_L4 x_readPeople readKin x_readPeople 0 false) := by first | (simp only [f_X9_hasAnyOther]; done) | rfl | (simp only [f_X9_hasAnyOther]; rfl)
  refine vv_zret hC hR rfl (bI_nar _) dX9_hasAnyOther_37 (by omega) (by omega) ?_
  rw [hf]
  exact ⟨rfl, rfl⟩
