def f_X9_in (p0 : Int64) (p2 : Int64) (p4 : Int64) : Bool := (if p0 < p2 then false else (if p4 < p0 then false else true))
set_option maxHeartbeats 4000000 in
set_option maxRecDepth 100000 in
theorem c_X9_in (g : GT) (w0 : Wd) (p0 : Int64) (p2 : Int64) (p4 : Int64) : CT g yX9_in cX9_in 6 (some .boolean) 0 0 0 0 w0 [.long p0, .long p2, .long p4] (fun r w2 => r = some (.int (bI (f_X9_in p0 p2 p4))) ∧ w0 = w2) := by
  refine CT.of (own := RX9) (by decide +kernel) rfl (Nat.le_of_ble_eq_true rfl) (fun X hC hR hI => ?_)
  show V g X 6 w0 0 0 0 [(0, .long p0), (2, .long p2), (4, .long p4)] []
  refine vv_lload_n hC 0 dX9_in_0 rfl rfl ?_
  refine vv_lload_n hC 1 dX9_in_1 rfl rfl ?_
  refine vv_lcmp hC dX9_in_2 ?_
  have hJ2 : V g X 6 w0 0 0 18 [(0, .long p0), (2, .long p2), (4, .long p4)] [.int (bI (if p0 < p2 then false else (if p4 < p0 then false else true)))] := by
    have hf : (f_X9_in p0 p2 p4) = (if p0 < p2 then false else (if p4 < p0 then false else true)) := by first | (simp only [f_X9_in]; done) | rfl | (simp only [f_X9_in]; rfl)
    refine vv_zret hC hR rfl (bI_nar _) dX9_in_18 (by omega) (by omega) ?_
    rw [hf]
    exact ⟨rfl, rfl⟩
  refine vv_if_lt hC 17 dX9_in_3 (by decide) (fun c1 => ?_) (fun c1 => ?_)
  · have c1 : p0 < p2 := lc_lt c1
    refine vv_iconst (v := 0) hC dX9_in_17 (by decide) ?_
    have hz := hJ2
    try simp only [if_pos c1] at hz
    first | exact hz | (simp only [if_pos c1]; exact hz)
  · have c1 : ¬ (p0 < p2) := lc_nlt c1
    refine vv_lload_n hC 0 dX9_in_6 rfl rfl ?_
    refine vv_lload hC 2 dX9_in_7 rfl ?_
    refine vv_lcmp hC dX9_in_9 ?_
    refine vv_if_gt hC 17 dX9_in_10 (by decide) (fun c3 => ?_) (fun c3 => ?_)
    · have c3 : p4 < p0 := lc_gt c3
      refine vv_iconst (v := 0) hC dX9_in_17 (by decide) ?_
      have hz := hJ2
      try simp only [if_neg c1, if_pos c3] at hz
      first | exact hz | (simp only [if_neg c1, if_pos c3]; exact hz)
    · have c3 : ¬ (p4 < p0) := lc_ngt c3
      refine vv_iconst (v := 1) hC dX9_in_13 (by decide) ?_
      refine vv_goto hC 18 dX9_in_14 (by decide) ?_
      have hz := hJ2
      try simp only [if_neg c1, if_neg c3] at hz
      first | exact hz | (simp only [if_neg c1, if_neg c3]; exact hz)
def f_X9_has (p0 : Int32) (p1 : Int32) : Bool := (if ((p0 >>> (p1 &&& 31)) &&& 1) = 1 then true else false)
set_option maxHeartbeats 4000000 in
set_option maxRecDepth 100000 in
theorem c_X9_has (g : GT) (w0 : Wd) (p0 : Int32) (p1 : Int32) : CT g yX9_has cX9_has 2 (some .boolean) 0 0 0 0 w0 [.int p0, .int p1] (fun r w2 => r = some (.int (bI (f_X9_has p0 p1))) ∧ w0 = w2) := by
  refine CT.of (own := RX9) (by decide +kernel) rfl (Nat.le_of_ble_eq_true rfl) (fun X hC hR hI => ?_)
  show V g X 2 w0 0 0 0 [(0, .int p0), (1, .int p1)] []
  refine vv_iload_n hC 0 dX9_has_0 rfl rfl ?_
  refine vv_iload_n hC 1 dX9_has_1 rfl rfl ?_
  refine vv_ishr hC dX9_has_2 ?_
  refine vv_iconst (v := 1) hC dX9_has_3 (by decide) ?_
  refine vv_iand hC dX9_has_4 ?_
  refine vv_iconst (v := 1) hC dX9_has_5 (by decide) ?_
  have hJ2 : V g X 2 w0 0 0 14 [(0, .int p0), (1, .int p1)] [.int (bI (if ((p0 >>> (p1 &&& 31)) &&& 1) = 1 then true else false))] := by
    have hf : (f_X9_has p0 p1) = (if ((p0 >>> (p1 &&& 31)) &&& 1) = 1 then true else false) := by first | (simp only [f_X9_has]; done) | rfl | (simp only [f_X9_has]; rfl)
    refine vv_zret hC hR rfl (bI_nar _) dX9_has_14 (by omega) (by omega) ?_
    rw [hf]
    exact ⟨rfl, rfl⟩
  refine vv_icmp_ne hC 13 dX9_has_6 (by decide) (fun c1 => ?_) (fun c1 => ?_)
  · have c1 : ¬ (((p0 >>> (p1 &&& 31)) &&& 1) = 1) := c1
    refine vv_iconst (v := 0) hC dX9_has_13 (by decide) ?_
    have hz := hJ2
    try simp only [if_neg c1] at hz
    first | exact hz | (simp only [if_neg c1]; exact hz)
  · have c1 : ((p0 >>> (p1 &&& 31)) &&& 1) = 1 := c1
    refine vv_iconst (v := 1) hC dX9_has_9 (by decide) ?_
    refine vv_goto hC 14 dX9_has_10 (by decide) ?_
    have hz := hJ2
    try simp only [if_pos c1] at hz
    first | exact hz | (simp only [if_pos c1]; exact hz)
def f_X9_bits_L4 (p0 : Int32) : Nat → Nat → Int32 → Int32
  | 0, k4, l1_4 => l1_4
  | r4 + 1, k4, l1_4 => f_X9_bits_L4 p0 r4 (k4 + 1) (l1_4 + ((p0 >>> (nI k4 &&& 31)) &&& 1))
def f_X9_bits (p0 : Int32) : Int32 := (f_X9_bits_L4 p0 6 0 0)
set_option maxHeartbeats 4000000 in
set_option maxRecDepth 100000 in
theorem c_X9_bits (g : GT) (w0 : Wd) (p0 : Int32) : CT g yX9_bits cX9_bits 3 (some .int) 0 0 0 0 w0 [.int p0] (fun r w2 => r = some (.int (f_X9_bits p0)) ∧ w0 = w2) := by
  refine CT.of (own := RX9) (by decide +kernel) rfl (Nat.le_of_ble_eq_true rfl) (fun X hC hR hI => ?_)
  show V g X 3 w0 0 0 0 [(0, .int p0)] []
  refine vv_iconst (v := 0) hC dX9_bits_0 (by decide) ?_
  refine vv_istore_n (lv2 := [(1, .int 0), (0, .int p0)]) hC dX9_bits_1 rfl (by decide) rfl ?_
  refine vv_iconst (v := 0) hC dX9_bits_2 (by decide) ?_
  refine vv_istore_n (lv2 := [(2, .int 0), (1, .int 0), (0, .int p0)]) hC dX9_bits_3 rfl (by decide) rfl ?_
  have hL1 : ∀ (r4 k4 : Nat) (l1_4 : Int32) (out : Int32), k4 + r4 = 6 → out = f_X9_bits_L4 p0 r4 k4 l1_4 → V g X 3 w0 0 0 24 [(0, .int p0), (1, .int out)] [] → V g X 3 w0 0 0 4 [(0, .int p0), (1, .int l1_4), (2, .int (nI k4))] [] := by
    intro r4
    induction r4 with
    | zero =>
      intro k4 l1_4 out hb ho hk
      refine vv_iload_n hC 2 dX9_bits_4 rfl rfl ?_
      refine vv_bipush (v := (6)) hC dX9_bits_5 (by decide) ?_
      refine vv_icmp_ge hC 24 dX9_bits_7 (by decide) (fun c => ?_) (fun c => False.elim (c ((nI_le_ (a := 6) (b := k4) (by omega) (by omega)).mpr (by omega))))
      refine vv_lv [0, 1] rfl ?_
      have ho := ho.trans (by first | (simp only [f_X9_bits_L4]; done) | rfl | (simp only [f_X9_bits_L4]; rfl) : _ = l1_4)
      subst ho
      exact hk
    | succ r4 ih =>
      intro k4 l1_4 out hb ho hk
      refine vv_iload_n hC 2 dX9_bits_4 rfl rfl ?_
      refine vv_bipush (v := (6)) hC dX9_bits_5 (by decide) ?_
      refine vv_icmp_ge hC 24 dX9_bits_7 (by decide) (fun c => absurd ((nI_le_ (a := 6) (b := k4) (by omega) (by omega)).mp c) (by first | omega | decide)) (fun c => ?_)
      refine vv_iload_n hC 1 dX9_bits_10 rfl rfl ?_
      refine vv_iload_n hC 0 dX9_bits_11 rfl rfl ?_
      refine vv_iload_n hC 2 dX9_bits_12 rfl rfl ?_
      refine vv_ishr hC dX9_bits_13 ?_
      refine vv_iconst (v := 1) hC dX9_bits_14 (by decide) ?_
      refine vv_iand hC dX9_bits_15 ?_
      refine vv_iadd hC dX9_bits_16 ?_
      refine vv_istore_n (lv2 := [(1, .int (l1_4 + ((p0 >>> (nI k4 &&& 31)) &&& 1))), (0, .int p0), (2, .int (nI k4))]) hC dX9_bits_17 rfl (by decide) rfl ?_
      refine vv_iinc (lv2 := [(2, .int (nI (k4 + 1))), (1, .int (l1_4 + ((p0 >>> (nI k4 &&& 31)) &&& 1))), (0, .int p0)]) hC 2 dX9_bits_18 rfl (nI_add k4 1) (by decide) rfl ?_
      refine vv_goto hC 4 dX9_bits_21 (by decide) ?_
      refine vv_lv [2, 1, 0] rfl ?_
      exact ih (k4 + 1) (l1_4 + ((p0 >>> (nI k4 &&& 31)) &&& 1)) out (by omega) (ho.trans (by first | (simp only [f_X9_bits_L4]; done) | rfl | (simp only [f_X9_bits_L4]; rfl))) hk
  refine vv_lv [2, 1, 0] rfl ?_
  refine hL1 6 0 0 (f_X9_bits_L4 p0 6 0 0) (by omega) rfl ?_
  refine vv_iload_n hC 1 dX9_bits_24 rfl rfl ?_
  have hf : (f_X9_bits p0) = (f_X9_bits_L4 p0 6 0 0) := by first | (simp only [f_X9_bits]; done) | rfl | (simp only [f_X9_bits]; rfl)
  refine vv_iret hC hR rfl dX9_bits_25 (by omega) (by omega) ?_
  rw [hf]
  exact ⟨rfl, rfl⟩
def f_X9_noHouse (x_houses : Nat) (p1 : Int32) : Bool := (if f_X9_in p1.toInt64 0 ((nI x_houses - 1).toInt64) = true then false else true)
set_option maxHeartbeats 4000000 in
set_option maxRecDepth 100000 in
theorem c_X9_noHouse (g : GT) (w0 : Wd) (B : Nat → Nat) (hB : ∀ i j, i < 60 → j < 60 → B i = B j → i = j) (x_thrown : Int32) (x_houses : Nat) (x_people : Nat) (x_paths : Nat) (x_acts : Nat) (x_size : Nat) (x_at : Nat) (x_readHouses : Nat) (x_readPeople : Nat) (x_readPaths : Nat) (x_sights : Nat) (x_drawn : Int64) (p1 : Int32) (h_m : w0 (B 0) = some (.inr (9, cM B (x_thrown, x_houses, x_people, x_paths, x_acts, x_size, x_at, x_readHouses, x_readPeople, x_readPaths, x_sights, x_drawn)))) : CT g yX9_noHouse cX9_noHouse 2 (some .boolean) 1 25 0 0 w0 [.ref (B 0), .int p1] (fun r w2 => r = some (.int (bI (f_X9_noHouse x_houses p1))) ∧ w0 = w2) := by
  refine CT.of (own := RX9) (by decide +kernel) rfl (Nat.le_of_ble_eq_true rfl) (fun X hC hR hI => ?_)
  show V g X 2 w0 0 0 0 [(0, .ref (B 0)), (1, .int p1)] []
  refine vv_iload_n hC 1 dX9_noHouse_0 rfl rfl ?_
  refine vv_i2l hC dX9_noHouse_1 ?_
  refine vv_lconst (v := 0) hC dX9_noHouse_2 (by decide) ?_
  refine vv_aload_n hC 0 dX9_noHouse_3 rfl rfl ?_
  refine vv_get (v := .int (nI x_houses)) hC fl_X9_73 dX9_noHouse_4 h_m rfl ?_
  refine vv_iconst (v := 1) hC dX9_noHouse_7 (by decide) ?_
  refine vv_isub hC dX9_noHouse_8 ?_
  refine vv_i2l hC dX9_noHouse_9 ?_
  refine vv_callS hC dX9_noHouse_10 md_X9_in lk_m_X9_76 lk_t_X9_in (As := [.long p1.toInt64, .long 0, .long ((nI x_houses - 1).toInt64)]) (rest := []) (c_X9_in g w0 p1.toInt64 0 ((nI x_houses - 1).toInt64)) rfl rfl (Nat.le_of_ble_eq_true rfl) ⟨by decide, by decide, by decide, by decide⟩ (fun r w9 hq => ?_)
  obtain ⟨rfl, rfl⟩ := hq
  show V g X 2 w0 0 0 13 [(0, .ref (B 0)), (1, .int p1)] [.int (bI (f_X9_in p1.toInt64 0 ((nI x_houses - 1).toInt64)))]
  have hJ2 : V g X 2 w0 0 0 21 [(0, .ref (B 0)), (1, .int p1)] [.int (bI (if f_X9_in p1.toInt64 0 ((nI x_houses - 1).toInt64) = true then false else true))] := by
    have hf : (f_X9_noHouse x_houses p1) = (if f_X9_in p1.toInt64 0 ((nI x_houses - 1).toInt64) = true then false else true) := by first | (simp only [f_X9_noHouse]; done) | rfl | (simp only [f_X9_noHouse]; rfl)
    refine vv_zret hC hR rfl (bI_nar _) dX9_noHouse_21 (by omega) (by omega) ?_
    rw [hf]
    exact ⟨rfl, rfl⟩
  refine vv_if_ne hC 20 dX9_noHouse_13 (by decide) (fun c1 => ?_) (fun c1 => ?_)
  · have c1 : f_X9_in p1.toInt64 0 ((nI x_houses - 1).toInt64) = true := bI_t c1
    refine vv_iconst (v := 0) hC dX9_noHouse_20 (by decide) ?_
    have hz := hJ2
    try simp only [if_pos c1] at hz
    first | exact hz | (simp only [if_pos c1]; exact hz)
  · have c1 : ¬ (f_X9_in p1.toInt64 0 ((nI x_houses - 1).toInt64) = true) := bI_f c1
    refine vv_iconst (v := 1) hC dX9_noHouse_16 (by decide) ?_
    refine vv_goto hC 21 dX9_noHouse_17 (by decide) ?_
    have hz := hJ2
    try simp only [if_neg c1] at hz
    first | exact hz | (simp only [if_neg c1]; exact hz)
def f_X9_noOne (x_people : Nat) (p1 : Int32) : Bool := (if f_X9_in p1.toInt64 0 ((nI x_people - 1).toInt64) = true then false else true)
set_option maxHeartbeats 4000000 in
set_option maxRecDepth 100000 in
theorem c_X9_noOne (g : GT) (w0 : Wd) (B : Nat → Nat) (hB : ∀ i j, i < 60 → j < 60 → B i = B j → i = j) (x_thrown : Int32) (x_houses : Nat) (x_people : Nat) (x_paths : Nat) (x_acts : Nat) (x_size : Nat) (x_at : Nat) (x_readHouses : Nat) (x_readPeople : Nat) (x_readPaths : Nat) (x_sights : Nat) (x_drawn : Int64) (p1 : Int32) (h_m : w0 (B 0) = some (.inr (9, cM B (x_thrown, x_houses, x_people, x_paths, x_acts, x_size, x_at, x_readHouses, x_readPeople, x_readPaths, x_sights, x_drawn)))) : CT g yX9_noOne cX9_noOne 2 (some .boolean) 1 25 0 0 w0 [.ref (B 0), .int p1] (fun r w2 => r = some (.int (bI (f_X9_noOne x_people p1))) ∧ w0 = w2) := by
  refine CT.of (own := RX9) (by decide +kernel) rfl (Nat.le_of_ble_eq_true rfl) (fun X hC hR hI => ?_)
  show V g X 2 w0 0 0 0 [(0, .ref (B 0)), (1, .int p1)] []
  refine vv_iload_n hC 1 dX9_noOne_0 rfl rfl ?_
  refine vv_i2l hC dX9_noOne_1 ?_
  refine vv_lconst (v := 0) hC dX9_noOne_2 (by decide) ?_
  refine vv_aload_n hC 0 dX9_noOne_3 rfl rfl ?_
  refine vv_get (v := .int (nI x_people)) hC fl_X9_80 dX9_noOne_4 h_m rfl ?_
  refine vv_iconst (v := 1) hC dX9_noOne_7 (by decide) ?_
  refine vv_isub hC dX9_noOne_8 ?_
  refine vv_i2l hC dX9_noOne_9 ?_
  refine vv_callS hC dX9_noOne_10 md_X9_in lk_m_X9_76 lk_t_X9_in (As := [.long p1.toInt64, .long 0, .long ((nI x_people - 1).toInt64)]) (rest := []) (c_X9_in g w0 p1.toInt64 0 ((nI x_people - 1).toInt64)) rfl rfl (Nat.le_of_ble_eq_true rfl) ⟨by decide, by decide, by decide, by decide⟩ (fun r w9 hq => ?_)
  obtain ⟨rfl, rfl⟩ := hq
  show V g X 2 w0 0 0 13 [(0, .ref (B 0)), (1, .int p1)] [.int (bI (f_X9_in p1.toInt64 0 ((nI x_people - 1).toInt64)))]
  have hJ2 : V g X 2 w0 0 0 21 [(0, .ref (B 0)), (1, .int p1)] [.int (bI (if f_X9_in p1.toInt64 0 ((nI x_people - 1).toInt64) = true then false else true))] := by
    have hf : (f_X9_noOne x_people p1) = (if f_X9_in p1.toInt64 0 ((nI x_people - 1).toInt64) = true then false else true) := by first | (simp only [f_X9_noOne]; done) | rfl | (simp only [f_X9_noOne]; rfl)
    refine vv_zret hC hR rfl (bI_nar _) dX9_noOne_21 (by omega) (by omega) ?_
    rw [hf]
    exact ⟨rfl, rfl⟩
  refine vv_if_ne hC 20 dX9_noOne_13 (by decide) (fun c1 => ?_) (fun c1 => ?_)
  · have c1 : f_X9_in p1.toInt64 0 ((nI x_people - 1).toInt64) = true := bI_t c1
    refine vv_iconst (v := 0) hC dX9_noOne_20 (by decide) ?_
    have hz := hJ2
    try simp only [if_pos c1] at hz
    first | exact hz | (simp only [if_pos c1]; exact hz)
  · have c1 : ¬ (f_X9_in p1.toInt64 0 ((nI x_people - 1).toInt64) = true) := bI_f c1
    refine vv_iconst (v := 1) hC dX9_noOne_16 (by decide) ?_
    refine vv_goto hC 21 dX9_noOne_17 (by decide) ?_
    have hz := hJ2
    try simp only [if_neg c1] at hz
    first | exact hz | (simp only [if_neg c1]; exact hz)
def f_X9_of (now : Nat → Int32) (p1 : Nat) (p2 : Nat) : Int32 := now (13 + 5 * p1 + p2)
set_option maxHeartbeats 4000000 in
set_option maxRecDepth 100000 in
theorem c_X9_of (g : GT) (w0 : Wd) (B : Nat → Nat) (hB : ∀ i j, i < 60 → j < 60 → B i = B j → i = j) (x_thrown : Int32) (x_houses : Nat) (x_people : Nat) (x_paths : Nat) (x_acts : Nat) (x_size : Nat) (x_at : Nat) (x_readHouses : Nat) (x_readPeople : Nat) (x_readPaths : Nat) (x_sights : Nat) (x_drawn : Int64) (now : Nat → Int32) (p1 : Nat) (p2 : Nat) (hp : p1 < 6) (hw : p2 < 5) (h_m : w0 (B 0) = some (.inr (9, cM B (x_thrown, x_houses, x_people, x_paths, x_acts, x_size, x_at, x_readHouses, x_readPeople, x_readPaths, x_sights, x_drawn)))) (h_now : w0 (B 7) = some (.inl (g.2.2.1 0, 43, .inl now))) : CT g yX9_of cX9_of 3 (some .int) 0 0 0 0 w0 [.ref (B 0), .int (nI p1), .int (nI p2)] (fun r w2 => r = some (.int (f_X9_of now p1 p2)) ∧ w0 = w2) := by
  refine CT.of (own := RX9) (by decide +kernel) rfl (Nat.le_of_ble_eq_true rfl) (fun X hC hR hI => ?_)
  show V g X 3 w0 0 0 0 [(0, .ref (B 0)), (1, .int (nI p1)), (2, .int (nI p2))] []
  refine vv_aload_n hC 0 dX9_of_0 rfl rfl ?_
  refine vv_get (v := .ref (B 7)) hC fl_X9_19 dX9_of_1 h_m rfl ?_
  refine vv_bipush (v := (13)) hC dX9_of_4 (by decide) ?_
  refine vv_iconst (v := 5) hC dX9_of_6 (by decide) ?_
  refine vv_iload_n hC 1 dX9_of_7 rfl rfl ?_
  refine vv_imul hC dX9_of_8 ?_
  refine vv_topi (nI (5 * p1)) (pk_mul 5 p1) ?_
  refine vv_iadd hC dX9_of_9 ?_
  refine vv_topi (nI (13 + 5 * p1)) (nI_add 13 (5 * p1)) ?_
  refine vv_iload_n hC 2 dX9_of_10 rfl rfl ?_
  refine vv_iadd hC dX9_of_11 ?_
  refine vv_topi (nI (13 + 5 * p1 + p2)) (nI_add (13 + 5 * p1) p2) ?_
  refine vv_ialdn (t := 13 + 5 * p1 + p2) hC dX9_of_12 h_now (by omega) (by decide) ?_
  have hf : (f_X9_of now p1 p2) = now (13 + 5 * p1 + p2) := by first | (simp only [f_X9_of]; done) | rfl | (simp only [f_X9_of]; rfl)
  refine vv_iret hC hR rfl dX9_of_13 (by omega) (by omega) ?_
  rw [hf]
  exact ⟨rfl, rfl⟩
def f_X9_isThere (now : Nat → Int32) (p1 : Nat) : Bool := (if f_X9_of now p1 2 = 0 then true else false)
set_option maxHeartbeats 4000000 in
set_option maxRecDepth 100000 in
theorem c_X9_isThere (g : GT) (w0 : Wd) (B : Nat → Nat) (hB : ∀ i j, i < 60 → j < 60 → B i = B j → i = j) (x_thrown : Int32) (x_houses : Nat) (x_people : Nat) (x_paths : Nat) (x_acts : Nat) (x_size : Nat) (x_at : Nat) (x_readHouses : Nat) (x_readPeople : Nat) (x_readPaths : Nat) (x_sights : Nat) (x_drawn : Int64) (now : Nat → Int32) (p1 : Nat) (hp : p1 < 6) (h_m : w0 (B 0) = some (.inr (9, cM B (x_thrown, x_houses, x_people, x_paths, x_acts, x_size, x_at, x_readHouses, x_readPeople, x_readPaths, x_sights, x_drawn)))) (h_now : w0 (B 7) = some (.inl (g.2.2.1 0, 43, .inl now))) : CT g yX9_isThere cX9_isThere 2 (some .boolean) 1 22 0 0 w0 [.ref (B 0), .int (nI p1)] (fun r w2 => r = some (.int (bI (f_X9_isThere now p1))) ∧ w0 = w2) := by
  refine CT.of (own := RX9) (by decide +kernel) rfl (Nat.le_of_ble_eq_true rfl) (fun X hC hR hI => ?_)
  show V g X 2 w0 0 0 0 [(0, .ref (B 0)), (1, .int (nI p1))] []
  refine vv_aload_n hC 0 dX9_isThere_0 rfl rfl ?_
  refine vv_iload_n hC 1 dX9_isThere_1 rfl rfl ?_
  refine vv_iconst (v := 2) hC dX9_isThere_2 (by decide) ?_
  refine vv_callV hC dX9_isThere_3 md_X9_of lk_m_X9_83 lk_i_X9_of lk_s_X9_of h_m rfl (As := [.int (nI p1), .int 2]) (rest := []) (c_X9_of g w0 B hB x_thrown x_houses x_people x_paths x_acts x_size x_at x_readHouses x_readPeople x_readPaths x_sights x_drawn now p1 2 (by omega) (by omega) h_m h_now) rfl rfl (Nat.le_of_ble_eq_true rfl) ⟨by decide, by decide, by decide, by decide⟩ (fun r w9 hq => ?_)
  obtain ⟨rfl, rfl⟩ := hq
  show V g X 2 w0 0 0 6 [(0, .ref (B 0)), (1, .int (nI p1))] [.int (f_X9_of now p1 2)]
  have hJ2 : V g X 2 w0 0 0 14 [(0, .ref (B 0)), (1, .int (nI p1))] [.int (bI (if f_X9_of now p1 2 = 0 then true else false))] := by
    have hf : (f_X9_isThere now p1) = (if f_X9_of now p1 2 = 0 then true else false) := by first | (simp only [f_X9_isThere]; done) | rfl | (simp only [f_X9_isThere]; rfl)
    refine vv_zret hC hR rfl (bI_nar _) dX9_isThere_14 (by omega) (by omega) ?_
    rw [hf]
    exact ⟨rfl, rfl⟩
  refine vv_if_ne hC 13 dX9_isThere_6 (by decide) (fun c1 => ?_) (fun c1 => ?_)
  · have c1 : ¬ (f_X9_of now p1 2 = 0) := c1
    refine vv_iconst (v := 0) hC dX9_isThere_13 (by decide) ?_
    have hz := hJ2
    try simp only [if_neg c1] at hz
    first | exact hz | (simp only [if_neg c1]; exact hz)
  · have c1 : f_X9_of now p1 2 = 0 := c1
    refine vv_iconst (v := 1) hC dX9_isThere_9 (by decide) ?_
    refine vv_goto hC 14 dX9_isThere_10 (by decide) ?_
    have hz := hJ2
    try simp only [if_pos c1] at hz
    first | exact hz | (simp only [if_pos c1]; exact hz)
def f_X9_there_L4 (now : Nat → Int32) : Nat → Nat → Int32 → Int32
  | 0, k4, l1_4 => l1_4
  | r4 + 1, k4, l1_4 => f_X9_there_L4 now r4 (k4 + 1) (l1_4 ||| (if f_X9_isThere now k4 = true then ((1 : Int32) <<< (nI k4 &&& 31)) else (0 : Int32)))
def f_X9_there (x_people : Nat) (now : Nat → Int32) : Int32 := (f_X9_there_L4 now x_people 0 0)
set_option maxHeartbeats 4000000 in
set_option maxRecDepth 100000 in
theorem c_X9_there (g : GT) (w0 : Wd) (B : Nat → Nat) (hB : ∀ i j, i < 60 → j < 60 → B i = B j → i = j) (x_thrown : Int32) (x_houses : Nat) (x_people : Nat) (x_paths : Nat) (x_acts : Nat) (x_size : Nat) (x_at : Nat) (x_readHouses : Nat) (x_readPeople : Nat) (x_readPaths : Nat) (x_sights : Nat) (x_drawn : Int64) (now : Nat → Int32) (hxp : x_people ≤ 6) (h_m : w0 (B 0) = some (.inr (9, cM B (x_thrown, x_houses, x_people, x_paths, x_acts, x_size, x_at, x_readHouses, x_readPeople, x_readPaths, x_sights, x_drawn)))) (h_now : w0 (B 7) = some (.inl (g.2.2.1 0, 43, .inl now))) : CT g yX9_there cX9_there 3 (some .int) 2 43 0 0 w0 [.ref (B 0)] (fun r w2 => r = some (.int (f_X9_there x_people now)) ∧ w0 = w2) := by
  refine CT.of (own := RX9) (by decide +kernel) rfl (Nat.le_of_ble_eq_true rfl) (fun X hC hR hI => ?_)
  show V g X 3 w0 0 0 0 [(0, .ref (B 0))] []
  refine vv_iconst (v := 0) hC dX9_there_0 (by decide) ?_
  refine vv_istore_n (lv2 := [(1, .int 0), (0, .ref (B 0))]) hC dX9_there_1 rfl (by decide) rfl ?_
  refine vv_iconst (v := 0) hC dX9_there_2 (by decide) ?_
  refine vv_istore_n (lv2 := [(2, .int 0), (1, .int 0), (0, .ref (B 0))]) hC dX9_there_3 rfl (by decide) rfl ?_
  have hL3 : ∀ (r4 k4 : Nat) (l1_4 : Int32) (out : Int32), k4 + r4 = x_people → out = f_X9_there_L4 now r4 k4 l1_4 → V g X 3 w0 0 0 36 [(0, .ref (B 0)), (1, .int out)] [] → V g X 3 w0 0 0 4 [(0, .ref (B 0)), (1, .int l1_4), (2, .int (nI k4))] [] := by
    intro r4
    induction r4 with
    | zero =>
      intro k4 l1_4 out hb ho hk
      refine vv_iload_n hC 2 dX9_there_4 rfl rfl ?_
      refine vv_aload_n hC 0 dX9_there_5 rfl rfl ?_
      refine vv_get (v := .int (nI x_people)) hC fl_X9_80 dX9_there_6 h_m rfl ?_
      refine vv_icmp_ge hC 36 dX9_there_9 (by decide) (fun c => ?_) (fun c => False.elim (c ((nI_le_ (a := x_people) (b := k4) (by omega) (by omega)).mpr (by omega))))
      refine vv_lv [0, 1] rfl ?_
      have ho := ho.trans (by first | (simp only [f_X9_there_L4]; done) | rfl | (simp only [f_X9_there_L4]; rfl) : _ = l1_4)
      subst ho
      exact hk
    | succ r4 ih =>
      intro k4 l1_4 out hb ho hk
      refine vv_iload_n hC 2 dX9_there_4 rfl rfl ?_
      refine vv_aload_n hC 0 dX9_there_5 rfl rfl ?_
      refine vv_get (v := .int (nI x_people)) hC fl_X9_80 dX9_there_6 h_m rfl ?_
      refine vv_icmp_ge hC 36 dX9_there_9 (by decide) (fun c => absurd ((nI_le_ (a := x_people) (b := k4) (by omega) (by omega)).mp c) (by first | omega | decide)) (fun c => ?_)
      refine vv_iload_n hC 1 dX9_there_12 rfl rfl ?_
      refine vv_aload_n hC 0 dX9_there_13 rfl rfl ?_
      refine vv_iload_n hC 2 dX9_there_14 rfl rfl ?_
      refine vv_callV hC dX9_there_15 md_X9_isThere lk_m_X9_87 lk_i_X9_isThere lk_s_X9_isThere h_m rfl (As := [.int (nI k4)]) (rest := [.int l1_4]) (c_X9_isThere g w0 B hB x_thrown x_houses x_people x_paths x_acts x_size x_at x_readHouses x_readPeople x_readPaths x_sights x_drawn now k4 (by omega) h_m h_now) rfl rfl (Nat.le_of_ble_eq_true rfl) ⟨by decide, by decide, by decide, by decide⟩ (fun r w9 hq => ?_)
      obtain ⟨rfl, rfl⟩ := hq
      show V g X 3 w0 0 0 18 [(0, .ref (B 0)), (1, .int l1_4), (2, .int (nI k4))] [.int (bI (f_X9_isThere now k4)), .int l1_4]
      have hJ2 : V g X 3 w0 0 0 28 [(0, .ref (B 0)), (1, .int l1_4), (2, .int (nI k4))] [.int (if f_X9_isThere now k4 = true then ((1 : Int32) <<< (nI k4 &&& 31)) else (0 : Int32)), .int l1_4] := by
        refine vv_ior hC dX9_there_28 ?_
        refine vv_istore_n (lv2 := [(1, .int (l1_4 ||| (if f_X9_isThere now k4 = true then ((1 : Int32) <<< (nI k4 &&& 31)) else (0 : Int32)))), (0, .ref (B 0)), (2, .int (nI k4))]) hC dX9_there_29 rfl (by decide) rfl ?_
        refine vv_iinc (lv2 := [(2, .int (nI (k4 + 1))), (1, .int (l1_4 ||| (if f_X9_isThere now k4 = true then ((1 : Int32) <<< (nI k4 &&& 31)) else (0 : Int32)))), (0, .ref (B 0))]) hC 2 dX9_there_30 rfl (nI_add k4 1) (by decide) rfl ?_
        refine vv_goto hC 4 dX9_there_33 (by decide) ?_
        refine vv_lv [2, 1, 0] rfl ?_
        exact ih (k4 + 1) (l1_4 ||| (if f_X9_isThere now k4 = true then ((1 : Int32) <<< (nI k4 &&& 31)) else (0 : Int32))) out (by omega) (ho.trans (by first | (simp only [f_X9_there_L4]; done) | rfl | (simp only [f_X9_there_L4]; rfl))) hk
      refine vv_if_eq hC 27 dX9_there_18 (by decide) (fun c1 => ?_) (fun c1 => ?_)
      · have c1 : ¬ (f_X9_isThere now k4 = true) := bI_f c1
        refine vv_iconst (v := 0) hC dX9_there_27 (by decide) ?_
        have hz := hJ2
        try simp only [if_neg c1] at hz
        first | exact hz | (simp only [if_neg c1]; exact hz)
      · have c1 : f_X9_isThere now k4 = true := bI_t c1
        refine vv_iconst (v := 1) hC dX9_there_21 (by decide) ?_
        refine vv_iload_n hC 2 dX9_there_22 rfl rfl ?_
        refine vv_ishl hC dX9_there_23 ?_
        refine vv_goto hC 28 dX9_there_24 (by decide) ?_
        have hz := hJ2
        try simp only [if_pos c1] at hz
        first | exact hz | (simp only [if_pos c1]; exact hz)
  refine vv_lv [2, 1, 0] rfl ?_
  refine hL3 x_people 0 0 (f_X9_there_L4 now x_people 0 0) (by omega) rfl ?_
  refine vv_iload_n hC 1 dX9_there_36 rfl rfl ?_
  have hf : (f_X9_there x_people now) = (f_X9_there_L4 now x_people 0 0) := by first | (simp only [f_X9_there]; done) | rfl | (simp only [f_X9_there]; rfl)
  refine vv_iret hC hR rfl dX9_there_37 (by omega) (by omega) ?_
  rw [hf]
  exact ⟨rfl, rfl⟩
def f_X9_wolves_L4 (now : Nat → Int32) : Nat → Nat → Int32 → Int32
  | 0, k4, l1_4 => l1_4
  | r4 + 1, k4, l1_4 => f_X9_wolves_L4 now r4 (k4 + 1) (l1_4 ||| (if f_X9_of now k4 0 = 1 then (if f_X9_isThere now k4 = true then ((1 : Int32) <<< (nI k4 &&& 31)) else (0 : Int32)) else (0 : Int32)))
def f_X9_wolves (x_people : Nat) (now : Nat → Int32) : Int32 := (f_X9_wolves_L4 now x_people 0 0)
set_option maxHeartbeats 4000000 in
set_option maxRecDepth 100000 in
theorem c_X9_wolves (g : GT) (w0 : Wd) (B : Nat → Nat) (hB : ∀ i j, i < 60 → j < 60 → B i = B j → i = j) (x_thrown : Int32) (x_houses : Nat) (x_people : Nat) (x_paths : Nat) (x_acts : Nat) (x_size : Nat) (x_at : Nat) (x_readHouses : Nat) (x_readPeople : Nat) (x_readPaths : Nat) (x_sights : Nat) (x_drawn : Int64) (now : Nat → Int32) (hxp : x_people ≤ 6) (h_m : w0 (B 0) = some (.inr (9, cM B (x_thrown, x_houses, x_people, x_paths, x_acts, x_size, x_at, x_readHouses, x_readPeople, x_readPaths, x_sights, x_drawn)))) (h_now : w0 (B 7) = some (.inl (g.2.2.1 0, 43, .inl now))) : CT g yX9_wolves cX9_wolves 3 (some .int) 2 43 0 0 w0 [.ref (B 0)] (fun r w2 => r = some (.int (f_X9_wolves x_people now)) ∧ w0 = w2) := by
  refine CT.of (own := RX9) (by decide +kernel) rfl (Nat.le_of_ble_eq_true rfl) (fun X hC hR hI => ?_)
  show V g X 3 w0 0 0 0 [(0, .ref (B 0))] []
  refine vv_iconst (v := 0) hC dX9_wolves_0 (by decide) ?_
  refine vv_istore_n (lv2 := [(1, .int 0), (0, .ref (B 0))]) hC dX9_wolves_1 rfl (by decide) rfl ?_
  refine vv_iconst (v := 0) hC dX9_wolves_2 (by decide) ?_
  refine vv_istore_n (lv2 := [(2, .int 0), (1, .int 0), (0, .ref (B 0))]) hC dX9_wolves_3 rfl (by decide) rfl ?_
  have hL4 : ∀ (r4 k4 : Nat) (l1_4 : Int32) (out : Int32), k4 + r4 = x_people → out = f_X9_wolves_L4 now r4 k4 l1_4 → V g X 3 w0 0 0 46 [(0, .ref (B 0)), (1, .int out)] [] → V g X 3 w0 0 0 4 [(0, .ref (B 0)), (1, .int l1_4), (2, .int (nI k4))] [] := by
    intro r4
    induction r4 with
    | zero =>
      intro k4 l1_4 out hb ho hk
      refine vv_iload_n hC 2 dX9_wolves_4 rfl rfl ?_
      refine vv_aload_n hC 0 dX9_wolves_5 rfl rfl ?_
      refine vv_get (v := .int (nI x_people)) hC fl_X9_80 dX9_wolves_6 h_m rfl ?_
      refine vv_icmp_ge hC 46 dX9_wolves_9 (by decide) (fun c => ?_) (fun c => False.elim (c ((nI_le_ (a := x_people) (b := k4) (by omega) (by omega)).mpr (by omega))))
      refine vv_lv [0, 1] rfl ?_
      have ho := ho.trans (by first | (simp only [f_X9_wolves_L4]; done) | rfl | (simp only [f_X9_wolves_L4]; rfl) : _ = l1_4)
      subst ho
      exact hk
    | succ r4 ih =>
      intro k4 l1_4 out hb ho hk
      refine vv_iload_n hC 2 dX9_wolves_4 rfl rfl ?_
      refine vv_aload_n hC 0 dX9_wolves_5 rfl rfl ?_
      refine vv_get (v := .int (nI x_people)) hC fl_X9_80 dX9_wolves_6 h_m rfl ?_
      refine vv_icmp_ge hC 46 dX9_wolves_9 (by decide) (fun c => absurd ((nI_le_ (a := x_people) (b := k4) (by omega) (by omega)).mp c) (by first | omega | decide)) (fun c => ?_)
      refine vv_iload_n hC 1 dX9_wolves_12 rfl rfl ?_
      refine vv_aload_n hC 0 dX9_wolves_13 rfl rfl ?_
      refine vv_iload_n hC 2 dX9_wolves_14 rfl rfl ?_
      refine vv_iconst (v := 0) hC dX9_wolves_15 (by decide) ?_
      refine vv_callV hC dX9_wolves_16 md_X9_of lk_m_X9_83 lk_i_X9_of lk_s_X9_of h_m rfl (As := [.int (nI k4), .int 0]) (rest := [.int l1_4]) (c_X9_of g w0 B hB x_thrown x_houses x_people x_paths x_acts x_size x_at x_readHouses x_readPeople x_readPaths x_sights x_drawn now k4 0 (by omega) (by omega) h_m h_now) rfl rfl (Nat.le_of_ble_eq_true rfl) ⟨by decide, by decide, by decide, by decide⟩ (fun r w9 hq => ?_)
      obtain ⟨rfl, rfl⟩ := hq
      show V g X 3 w0 0 0 19 [(0, .ref (B 0)), (1, .int l1_4), (2, .int (nI k4))] [.int (f_X9_of now k4 0), .int l1_4]
      refine vv_iconst (v := 1) hC dX9_wolves_19 (by decide) ?_
      have hJ2 : V g X 3 w0 0 0 38 [(0, .ref (B 0)), (1, .int l1_4), (2, .int (nI k4))] [.int (if f_X9_of now k4 0 = 1 then (if f_X9_isThere now k4 = true then ((1 : Int32) <<< (nI k4 &&& 31)) else (0 : Int32)) else (0 : Int32)), .int l1_4] := by
        refine vv_ior hC dX9_wolves_38 ?_
        refine vv_istore_n (lv2 := [(1, .int (l1_4 ||| (if f_X9_of now k4 0 = 1 then (if f_X9_isThere now k4 = true then ((1 : Int32) <<< (nI k4 &&& 31)) else (0 : Int32)) else (0 : Int32)))), (0, .ref (B 0)), (2, .int (nI k4))]) hC dX9_wolves_39 rfl (by decide) rfl ?_
        refine vv_iinc (lv2 := [(2, .int (nI (k4 + 1))), (1, .int (l1_4 ||| (if f_X9_of now k4 0 = 1 then (if f_X9_isThere now k4 = true then ((1 : Int32) <<< (nI k4 &&& 31)) else (0 : Int32)) else (0 : Int32)))), (0, .ref (B 0))]) hC 2 dX9_wolves_40 rfl (nI_add k4 1) (by decide) rfl ?_
        refine vv_goto hC 4 dX9_wolves_43 (by decide) ?_
        refine vv_lv [2, 1, 0] rfl ?_
        exact ih (k4 + 1) (l1_4 ||| (if f_X9_of now k4 0 = 1 then (if f_X9_isThere now k4 = true then ((1 : Int32) <<< (nI k4 &&& 31)) else (0 : Int32)) else (0 : Int32))) out (by omega) (ho.trans (by first | (simp only [f_X9_wolves_L4]; done) | rfl | (simp only [f_X9_wolves_L4]; rfl))) hk
      refine vv_icmp_ne hC 37 dX9_wolves_20 (by decide) (fun c1 => ?_) (fun c1 => ?_)
      · have c1 : ¬ (f_X9_of now k4 0 = 1) := c1
        refine vv_iconst (v := 0) hC dX9_wolves_37 (by decide) ?_
        have hz := hJ2
        try simp only [if_neg c1] at hz
        first | exact hz | (simp only [if_neg c1]; exact hz)
      · have c1 : f_X9_of now k4 0 = 1 := c1
        refine vv_aload_n hC 0 dX9_wolves_23 rfl rfl ?_
        refine vv_iload_n hC 2 dX9_wolves_24 rfl rfl ?_
        refine vv_callV hC dX9_wolves_25 md_X9_isThere lk_m_X9_87 lk_i_X9_isThere lk_s_X9_isThere h_m rfl (As := [.int (nI k4)]) (rest := [.int l1_4]) (c_X9_isThere g w0 B hB x_thrown x_houses x_people x_paths x_acts x_size x_at x_readHouses x_readPeople x_readPaths x_sights x_drawn now k4 (by omega) h_m h_now) rfl rfl (Nat.le_of_ble_eq_true rfl) ⟨by decide, by decide, by decide, by decide⟩ (fun r w9 hq => ?_)
        obtain ⟨rfl, rfl⟩ := hq
        show V g X 3 w0 0 0 28 [(0, .ref (B 0)), (1, .int l1_4), (2, .int (nI k4))] [.int (bI (f_X9_isThere now k4)), .int l1_4]
        refine vv_if_eq hC 37 dX9_wolves_28 (by decide) (fun c3 => ?_) (fun c3 => ?_)
        · have c3 : ¬ (f_X9_isThere now k4 = true) := bI_f c3
          refine vv_iconst (v := 0) hC dX9_wolves_37 (by decide) ?_
          have hz := hJ2
          try simp only [if_pos c1, if_neg c3] at hz
          first | exact hz | (simp only [if_pos c1, if_neg c3]; exact hz)
        · have c3 : f_X9_isThere now k4 = true := bI_t c3
          refine vv_iconst (v := 1) hC dX9_wolves_31 (by decide) ?_
          refine vv_iload_n hC 2 dX9_wolves_32 rfl rfl ?_
          refine vv_ishl hC dX9_wolves_33 ?_
          refine vv_goto hC 38 dX9_wolves_34 (by decide) ?_
          have hz := hJ2
          try simp only [if_pos c1, if_pos c3] at hz
          first | exact hz | (simp only [if_pos c1, if_pos c3]; exact hz)
  refine vv_lv [2, 1, 0] rfl ?_
  refine hL4 x_people 0 0 (f_X9_wolves_L4 now x_people 0 0) (by omega) rfl ?_
  refine vv_iload_n hC 1 dX9_wolves_46 rfl rfl ?_
  have hf : (f_X9_wolves x_people now) = (f_X9_wolves_L4 now x_people 0 0) := by first | (simp only [f_X9_wolves]; done) | rfl | (simp only [f_X9_wolves]; rfl)
  refine vv_iret hC hR rfl dX9_wolves_47 (by omega) (by omega) ?_
  rw [hf]
  exact ⟨rfl, rfl⟩
def f_X9_nextTo_L5 (path : Nat → Int32) (p1 : Nat) (p2 : Int32) : Nat → Nat → Int32 → Int32
  | 0, k5, l3_5 => l3_5
  | r5 + 1, k5, l3_5 => f_X9_nextTo_L5 path p1 p2 r5 (k5 + 1) (l3_5 ||| (if path (4 * p1 + k5) < p2 then (0 : Int32) else ((1 : Int32) <<< (nI k5 &&& 31))))
def f_X9_nextTo (x_houses : Nat) (path : Nat → Int32) (p1 : Nat) (p2 : Int32) : Int32 := (f_X9_nextTo_L5 path p1 p2 x_houses 0 0)
set_option maxHeartbeats 4000000 in
set_option maxRecDepth 100000 in
theorem c_X9_nextTo (g : GT) (w0 : Wd) (B : Nat → Nat) (hB : ∀ i j, i < 60 → j < 60 → B i = B j → i = j) (x_thrown : Int32) (x_houses : Nat) (x_people : Nat) (x_paths : Nat) (x_acts : Nat) (x_size : Nat) (x_at : Nat) (x_readHouses : Nat) (x_readPeople : Nat) (x_readPaths : Nat) (x_sights : Nat) (x_drawn : Int64) (path : Nat → Int32) (p1 : Nat) (p2 : Int32) (hp : p1 < 4) (hxh : x_houses ≤ 4) (h_m : w0 (B 0) = some (.inr (9, cM B (x_thrown, x_houses, x_people, x_paths, x_acts, x_size, x_at, x_readHouses, x_readPeople, x_readPaths, x_sights, x_drawn)))) (h_path : w0 (B 4) = some (.inl (g.2.2.1 0, 16, .inl path))) : CT g yX9_nextTo cX9_nextTo 5 (some .int) 0 0 0 0 w0 [.ref (B 0), .int (nI p1), .int p2] (fun r w2 => r = some (.int (f_X9_nextTo x_houses path p1 p2)) ∧ w0 = w2) := by
  refine CT.of (own := RX9) (by decide +kernel) rfl (Nat.le_of_ble_eq_true rfl) (fun X hC hR hI => ?_)
  show V g X 5 w0 0 0 0 [(0, .ref (B 0)), (1, .int (nI p1)), (2, .int p2)] []
  refine vv_iconst (v := 0) hC dX9_nextTo_0 (by decide) ?_
  refine vv_istore_n (lv2 := [(3, .int 0), (0, .ref (B 0)), (1, .int (nI p1)), (2, .int p2)]) hC dX9_nextTo_1 rfl (by decide) rfl ?_
  refine vv_iconst (v := 0) hC dX9_nextTo_2 (by decide) ?_
  refine vv_istore (lv2 := [(4, .int 0), (3, .int 0), (0, .ref (B 0)), (1, .int (nI p1)), (2, .int p2)]) hC dX9_nextTo_3 (by decide) rfl ?_
  have hL3 : ∀ (r5 k5 : Nat) (l3_5 : Int32) (out : Int32), k5 + r5 = x_houses → out = f_X9_nextTo_L5 path p1 p2 r5 k5 l3_5 → V g X 5 w0 0 0 46 [(0, .ref (B 0)), (1, .int (nI p1)), (2, .int p2), (3, .int out)] [] → V g X 5 w0 0 0 5 [(0, .ref (B 0)), (1, .int (nI p1)), (2, .int p2), (3, .int l3_5), (4, .int (nI k5))] [] := by
    intro r5
    induction r5 with
    | zero =>
      intro k5 l3_5 out hb ho hk
      refine vv_iload hC 4 dX9_nextTo_5 rfl ?_
      refine vv_aload_n hC 0 dX9_nextTo_7 rfl rfl ?_
      refine vv_get (v := .int (nI x_houses)) hC fl_X9_73 dX9_nextTo_8 h_m rfl ?_
      refine vv_icmp_ge hC 46 dX9_nextTo_11 (by decide) (fun c => ?_) (fun c => False.elim (c ((nI_le_ (a := x_houses) (b := k5) (by omega) (by omega)).mpr (by omega))))
      refine vv_lv [0, 1, 2, 3] rfl ?_
      have ho := ho.trans (by first | (simp only [f_X9_nextTo_L5]; done) | rfl | (simp only [f_X9_nextTo_L5]; rfl) : _ = l3_5)
      subst ho
      exact hk
    | succ r5 ih =>
      intro k5 l3_5 out hb ho hk
      refine vv_iload hC 4 dX9_nextTo_5 rfl ?_
      refine vv_aload_n hC 0 dX9_nextTo_7 rfl rfl ?_
      refine vv_get (v := .int (nI x_houses)) hC fl_X9_73 dX9_nextTo_8 h_m rfl ?_
      refine vv_icmp_ge hC 46 dX9_nextTo_11 (by decide) (fun c => absurd ((nI_le_ (a := x_houses) (b := k5) (by omega) (by omega)).mp c) (by first | omega | decide)) (fun c => ?_)
      refine vv_iload_n hC 3 dX9_nextTo_14 rfl rfl ?_
      refine vv_aload_n hC 0 dX9_nextTo_15 rfl rfl ?_
      refine vv_get (v := .ref (B 4)) hC fl_X9_7 dX9_nextTo_16 h_m rfl ?_
      refine vv_iconst (v := 4) hC dX9_nextTo_19 (by decide) ?_
      refine vv_iload_n hC 1 dX9_nextTo_20 rfl rfl ?_
      refine vv_imul hC dX9_nextTo_21 ?_
      refine vv_topi (nI (4 * p1)) (pk_mul 4 p1) ?_
      refine vv_iload hC 4 dX9_nextTo_22 rfl ?_
      refine vv_iadd hC dX9_nextTo_24 ?_
      refine vv_topi (nI (4 * p1 + k5)) (nI_add (4 * p1) k5) ?_
      refine vv_ialdn (t := 4 * p1 + k5) hC dX9_nextTo_25 h_path (by omega) (by decide) ?_
      refine vv_iload_n hC 2 dX9_nextTo_26 rfl rfl ?_
      have hJ2 : V g X 5 w0 0 0 38 [(0, .ref (B 0)), (1, .int (nI p1)), (2, .int p2), (3, .int l3_5), (4, .int (nI k5))] [.int (if path (4 * p1 + k5) < p2 then (0 : Int32) else ((1 : Int32) <<< (nI k5 &&& 31))), .int l3_5] := by
        refine vv_ior hC dX9_nextTo_38 ?_
        refine vv_istore_n (lv2 := [(3, .int (l3_5 ||| (if path (4 * p1 + k5) < p2 then (0 : Int32) else ((1 : Int32) <<< (nI k5 &&& 31))))), (0, .ref (B 0)), (1, .int (nI p1)), (2, .int p2), (4, .int (nI k5))]) hC dX9_nextTo_39 rfl (by decide) rfl ?_
        refine vv_iinc (lv2 := [(4, .int (nI (k5 + 1))), (3, .int (l3_5 ||| (if path (4 * p1 + k5) < p2 then (0 : Int32) else ((1 : Int32) <<< (nI k5 &&& 31))))), (0, .ref (B 0)), (1, .int (nI p1)), (2, .int p2)]) hC 4 dX9_nextTo_40 rfl (nI_add k5 1) (by decide) rfl ?_
        refine vv_goto hC 5 dX9_nextTo_43 (by decide) ?_
        refine vv_lv [2, 3, 4, 1, 0] rfl ?_
        exact ih (k5 + 1) (l3_5 ||| (if path (4 * p1 + k5) < p2 then (0 : Int32) else ((1 : Int32) <<< (nI k5 &&& 31)))) out (by omega) (ho.trans (by first | (simp only [f_X9_nextTo_L5]; done) | rfl | (simp only [f_X9_nextTo_L5]; rfl))) hk
      refine vv_icmp_lt hC 37 dX9_nextTo_27 (by decide) (fun c1 => ?_) (fun c1 => ?_)
      · have c1 : path (4 * p1 + k5) < p2 := c1
        refine vv_iconst (v := 0) hC dX9_nextTo_37 (by decide) ?_
        have hz := hJ2
        try simp only [if_pos c1] at hz
        first | exact hz | (simp only [if_pos c1]; exact hz)
      · have c1 : ¬ (path (4 * p1 + k5) < p2) := c1
        refine vv_iconst (v := 1) hC dX9_nextTo_30 (by decide) ?_
        refine vv_iload hC 4 dX9_nextTo_31 rfl ?_
        refine vv_ishl hC dX9_nextTo_33 ?_
        refine vv_goto hC 38 dX9_nextTo_34 (by decide) ?_
        have hz := hJ2
        try simp only [if_neg c1] at hz
        first | exact hz | (simp only [if_neg c1]; exact hz)
  refine vv_lv [2, 3, 4, 1, 0] rfl ?_
  refine hL3 x_houses 0 0 (f_X9_nextTo_L5 path p1 p2 x_houses 0 0) (by omega) rfl ?_
  refine vv_iload_n hC 3 dX9_nextTo_46 rfl rfl ?_
  have hf : (f_X9_nextTo x_houses path p1 p2) = (f_X9_nextTo_L5 path p1 p2 x_houses 0 0) := by first | (simp only [f_X9_nextTo]; done) | rfl | (simp only [f_X9_nextTo]; rfl)
  refine vv_iret hC hR rfl dX9_nextTo_47 (by omega) (by omega) ?_
  rw [hf]
  exact ⟨rfl, rfl⟩
def f_X9_open_L4 (now : Nat → Int32) : Nat → Nat → Int32 → Int32
  | 0, k4, l1_4 => l1_4
  | r4 + 1, k4, l1_4 => f_X9_open_L4 now r4 (k4 + 1) (l1_4 ||| (if now (5 + k4) = 0 then ((1 : Int32) <<< (nI k4 &&& 31)) else (0 : Int32)))
def f_X9_open (x_houses : Nat) (now : Nat → Int32) : Int32 := (f_X9_open_L4 now x_houses 0 0)
set_option maxHeartbeats 4000000 in
set_option maxRecDepth 100000 in
theorem c_X9_open (g : GT) (w0 : Wd) (B : Nat → Nat) (hB : ∀ i j, i < 60 → j < 60 → B i = B j → i = j) (x_thrown : Int32) (x_houses : Nat) (x_people : Nat) (x_paths : Nat) (x_acts : Nat) (x_size : Nat) (x_at : Nat) (x_readHouses : Nat) (x_readPeople : Nat) (x_readPaths : Nat) (x_sights : Nat) (x_drawn : Int64) (now : Nat → Int32) (hxh : x_houses ≤ 4) (h_m : w0 (B 0) = some (.inr (9, cM B (x_thrown, x_houses, x_people, x_paths, x_acts, x_size, x_at, x_readHouses, x_readPeople, x_readPaths, x_sights, x_drawn)))) (h_now : w0 (B 7) = some (.inl (g.2.2.1 0, 43, .inl now))) : CT g yX9_open cX9_open 3 (some .int) 0 0 0 0 w0 [.ref (B 0)] (fun r w2 => r = some (.int (f_X9_open x_houses now)) ∧ w0 = w2) := by
  refine CT.of (own := RX9) (by decide +kernel) rfl (Nat.le_of_ble_eq_true rfl) (fun X hC hR hI => ?_)
  show V g X 3 w0 0 0 0 [(0, .ref (B 0))] []
  refine vv_iconst (v := 0) hC dX9_open_0 (by decide) ?_
  refine vv_istore_n (lv2 := [(1, .int 0), (0, .ref (B 0))]) hC dX9_open_1 rfl (by decide) rfl ?_
  refine vv_iconst (v := 0) hC dX9_open_2 (by decide) ?_
  refine vv_istore_n (lv2 := [(2, .int 0), (1, .int 0), (0, .ref (B 0))]) hC dX9_open_3 rfl (by decide) rfl ?_
  have hL3 : ∀ (r4 k4 : Nat) (l1_4 : Int32) (out : Int32), k4 + r4 = x_houses → out = f_X9_open_L4 now r4 k4 l1_4 → V g X 3 w0 0 0 39 [(0, .ref (B 0)), (1, .int out)] [] → V g X 3 w0 0 0 4 [(0, .ref (B 0)), (1, .int l1_4), (2, .int (nI k4))] [] := by
    intro r4
    induction r4 with
    | zero =>
      intro k4 l1_4 out hb ho hk
      refine vv_iload_n hC 2 dX9_open_4 rfl rfl ?_
      refine vv_aload_n hC 0 dX9_open_5 rfl rfl ?_
      refine vv_get (v := .int (nI x_houses)) hC fl_X9_73 dX9_open_6 h_m rfl ?_
      refine vv_icmp_ge hC 39 dX9_open_9 (by decide) (fun c => ?_) (fun c => False.elim (c ((nI_le_ (a := x_houses) (b := k4) (by omega) (by omega)).mpr (by omega))))
      refine vv_lv [0, 1] rfl ?_
      have ho := ho.trans (by first | (simp only [f_X9_open_L4]; done) | rfl | (simp only [f_X9_open_L4]; rfl) : _ = l1_4)
      subst ho
      exact hk
    | succ r4 ih =>
      intro k4 l1_4 out hb ho hk
      refine vv_iload_n hC 2 dX9_open_4 rfl rfl ?_
      refine vv_aload_n hC 0 dX9_open_5 rfl rfl ?_
      refine vv_get (v := .int (nI x_houses)) hC fl_X9_73 dX9_open_6 h_m rfl ?_
      refine vv_icmp_ge hC 39 dX9_open_9 (by decide) (fun c => absurd ((nI_le_ (a := x_houses) (b := k4) (by omega) (by omega)).mp c) (by first | omega | decide)) (fun c => ?_)
      refine vv_iload_n hC 1 dX9_open_12 rfl rfl ?_
      refine vv_aload_n hC 0 dX9_open_13 rfl rfl ?_
      refine vv_get (v := .ref (B 7)) hC fl_X9_19 dX9_open_14 h_m rfl ?_
      refine vv_iconst (v := 5) hC dX9_open_17 (by decide) ?_
      refine vv_iload_n hC 2 dX9_open_18 rfl rfl ?_
      refine vv_iadd hC dX9_open_19 ?_
      refine vv_topi (nI (5 + k4)) (nI_add 5 k4) ?_
      refine vv_ialdn (t := 5 + k4) hC dX9_open_20 h_now (by omega) (by decide) ?_
      have hJ2 : V g X 3 w0 0 0 31 [(0, .ref (B 0)), (1, .int l1_4), (2, .int (nI k4))] [.int (if now (5 + k4) = 0 then ((1 : Int32) <<< (nI k4 &&& 31)) else (0 : Int32)), .int l1_4] := by
        refine vv_ior hC dX9_open_31 ?_
        refine vv_istore_n (lv2 := [(1, .int (l1_4 ||| (if now (5 + k4) = 0 then ((1 : Int32) <<< (nI k4 &&& 31)) else (0 : Int32)))), (0, .ref (B 0)), (2, .int (nI k4))]) hC dX9_open_32 rfl (by decide) rfl ?_
        refine vv_iinc (lv2 := [(2, .int (nI (k4 + 1))), (1, .int (l1_4 ||| (if now (5 + k4) = 0 then ((1 : Int32) <<< (nI k4 &&& 31)) else (0 : Int32)))), (0, .ref (B 0))]) hC 2 dX9_open_33 rfl (nI_add k4 1) (by decide) rfl ?_
        refine vv_goto hC 4 dX9_open_36 (by decide) ?_
        refine vv_lv [2, 1, 0] rfl ?_
        exact ih (k4 + 1) (l1_4 ||| (if now (5 + k4) = 0 then ((1 : Int32) <<< (nI k4 &&& 31)) else (0 : Int32))) out (by omega) (ho.trans (by first | (simp only [f_X9_open_L4]; done) | rfl | (simp only [f_X9_open_L4]; rfl))) hk
      refine vv_if_ne hC 30 dX9_open_21 (by decide) (fun c1 => ?_) (fun c1 => ?_)
      · have c1 : ¬ (now (5 + k4) = 0) := c1
        refine vv_iconst (v := 0) hC dX9_open_30 (by decide) ?_
        have hz := hJ2
        try simp only [if_neg c1] at hz
        first | exact hz | (simp only [if_neg c1]; exact hz)
      · have c1 : now (5 + k4) = 0 := c1
        refine vv_iconst (v := 1) hC dX9_open_24 (by decide) ?_
        refine vv_iload_n hC 2 dX9_open_25 rfl rfl ?_
        refine vv_ishl hC dX9_open_26 ?_
        refine vv_goto hC 31 dX9_open_27 (by decide) ?_
        have hz := hJ2
        try simp only [if_pos c1] at hz
        first | exact hz | (simp only [if_pos c1]; exact hz)
  refine vv_lv [2, 1, 0] rfl ?_
  refine hL3 x_houses 0 0 (f_X9_open_L4 now x_houses 0 0) (by omega) rfl ?_
  refine vv_iload_n hC 1 dX9_open_39 rfl rfl ?_
  have hf : (f_X9_open x_houses now) = (f_X9_open_L4 now x_houses 0 0) := by first | (simp only [f_X9_open]; done) | rfl | (simp only [f_X9_open]; rfl)
  refine vv_iret hC hR rfl dX9_open_40 (by omega) (by omega) ?_
  rw [hf]
  exact ⟨rfl, rfl⟩
def f_X9_goesTo (x_houses : Nat) (now : Nat → Int32) (home : Nat → Int32) (path : Nat → Int32) (p1 : Nat) : Int32 := (if now (5 + tn (home p1)) = 2 then (0 : Int32) else (f_X9_nextTo x_houses path (tn (home p1)) 1 &&& f_X9_open x_houses now))
set_option maxHeartbeats 4000000 in
set_option maxRecDepth 100000 in
theorem c_X9_goesTo (g : GT) (w0 : Wd) (B : Nat → Nat) (hB : ∀ i j, i < 60 → j < 60 → B i = B j → i = j) (x_thrown : Int32) (x_houses : Nat) (x_people : Nat) (x_paths : Nat) (x_acts : Nat) (x_size : Nat) (x_at : Nat) (x_readHouses : Nat) (x_readPeople : Nat) (x_readPaths : Nat) (x_sights : Nat) (x_drawn : Int64) (now : Nat → Int32) (home : Nat → Int32) (path : Nat → Int32) (p1 : Nat) (hp : p1 < 6) (hxh : x_houses ≤ 4) (hom : ∀ q, q < 6 → home q = nI (tn (home q)) ∧ tn (home q) < 4) (h_m : w0 (B 0) = some (.inr (9, cM B (x_thrown, x_houses, x_people, x_paths, x_acts, x_size, x_at, x_readHouses, x_readPeople, x_readPaths, x_sights, x_drawn)))) (h_now : w0 (B 7) = some (.inl (g.2.2.1 0, 43, .inl now))) (h_home : w0 (B 5) = some (.inl (g.2.2.1 0, 6, .inl home))) (h_path : w0 (B 4) = some (.inl (g.2.2.1 0, 16, .inl path))) : CT g yX9_goesTo cX9_goesTo 2 (some .int) 1 24 0 0 w0 [.ref (B 0), .int (nI p1)] (fun r w2 => r = some (.int (f_X9_goesTo x_houses now home path p1)) ∧ w0 = w2) := by
  refine CT.of (own := RX9) (by decide +kernel) rfl (Nat.le_of_ble_eq_true rfl) (fun X hC hR hI => ?_)
  show V g X 2 w0 0 0 0 [(0, .ref (B 0)), (1, .int (nI p1))] []
  refine vv_aload_n hC 0 dX9_goesTo_0 rfl rfl ?_
  refine vv_get (v := .ref (B 7)) hC fl_X9_19 dX9_goesTo_1 h_m rfl ?_
  refine vv_iconst (v := 5) hC dX9_goesTo_4 (by decide) ?_
  refine vv_aload_n hC 0 dX9_goesTo_5 rfl rfl ?_
  refine vv_get (v := .ref (B 5)) hC fl_X9_13 dX9_goesTo_6 h_m rfl ?_
  refine vv_iload_n hC 1 dX9_goesTo_9 rfl rfl ?_
  refine vv_ialdn (t := p1) hC dX9_goesTo_10 h_home (by omega) (by decide) ?_
  have b1 := hom p1 (by omega)
  refine vv_topi (nI (tn (home p1))) b1.1 ?_
  refine vv_iadd hC dX9_goesTo_11 ?_
  refine vv_topi (nI (5 + tn (home p1))) (nI_add 5 (tn (home p1))) ?_
  refine vv_ialdn (t := 5 + tn (home p1)) hC dX9_goesTo_12 h_now (by omega) (by decide) ?_
  refine vv_iconst (v := 2) hC dX9_goesTo_13 (by decide) ?_
  have hJ3 : V g X 2 w0 0 0 37 [(0, .ref (B 0)), (1, .int (nI p1))] [.int (if now (5 + tn (home p1)) = 2 then (0 : Int32) else (f_X9_nextTo x_houses path (tn (home p1)) 1 &&& f_X9_open x_houses now))] := by
    have hf : (f_X9_goesTo x_houses now home path p1) = (if now (5 + tn (home p1)) = 2 then (0 : Int32) else (f_X9_nextTo x_houses path (tn (home p1)) 1 &&& f_X9_open x_houses now)) := by first | (simp only [f_X9_goesTo]; done) | rfl | (simp only [f_X9_goesTo]; rfl)
    refine vv_iret hC hR rfl dX9_goesTo_37 (by omega) (by omega) ?_
    rw [hf]
    exact ⟨rfl, rfl⟩
  refine vv_icmp_ne hC 21 dX9_goesTo_14 (by decide) (fun c2 => ?_) (fun c2 => ?_)
  · have c2 : ¬ (now (5 + tn (home p1)) = 2) := c2
    refine vv_aload_n hC 0 dX9_goesTo_21 rfl rfl ?_
    refine vv_aload_n hC 0 dX9_goesTo_22 rfl rfl ?_
    refine vv_get (v := .ref (B 5)) hC fl_X9_13 dX9_goesTo_23 h_m rfl ?_
    refine vv_iload_n hC 1 dX9_goesTo_26 rfl rfl ?_
    refine vv_ialdn (t := p1) hC dX9_goesTo_27 h_home (by omega) (by decide) ?_
    have b4 := hom p1 (by omega)
    refine vv_topi (nI (tn (home p1))) b4.1 ?_
    refine vv_iconst (v := 1) hC dX9_goesTo_28 (by decide) ?_
    refine vv_callV hC dX9_goesTo_29 md_X9_nextTo lk_m_X9_165 lk_i_X9_nextTo lk_s_X9_nextTo h_m rfl (As := [.int (nI (tn (home p1))), .int 1]) (rest := []) (c_X9_nextTo g w0 B hB x_thrown x_houses x_people x_paths x_acts x_size x_at x_readHouses x_readPeople x_readPaths x_sights x_drawn path (tn (home p1)) 1 (by omega) (by omega) h_m h_path) rfl rfl (Nat.le_of_ble_eq_true rfl) ⟨by decide, by decide, by decide, by decide⟩ (fun r w9 hq => ?_)
    obtain ⟨rfl, rfl⟩ := hq
    show V g X 2 w0 0 0 32 [(0, .ref (B 0)), (1, .int (nI p1))] [.int (f_X9_nextTo x_houses path (tn (home p1)) 1)]
    refine vv_aload_n hC 0 dX9_goesTo_32 rfl rfl ?_
    refine vv_callV hC dX9_goesTo_33 md_X9_open lk_m_X9_171 lk_i_X9_open lk_s_X9_open h_m rfl (As := []) (rest := [.int (f_X9_nextTo x_houses path (tn (home p1)) 1)]) (c_X9_open g w0 B hB x_thrown x_houses x_people x_paths x_acts x_size x_at x_readHouses x_readPeople x_readPaths x_sights x_drawn now (by omega) h_m h_now) rfl rfl (Nat.le_of_ble_eq_true rfl) ⟨by decide, by decide, by decide, by decide⟩ (fun r w9 hq => ?_)
    obtain ⟨rfl, rfl⟩ := hq
    show V g X 2 w0 0 0 36 [(0, .ref (B 0)), (1, .int (nI p1))] [.int (f_X9_open x_houses now), .int (f_X9_nextTo x_houses path (tn (home p1)) 1)]
    refine vv_iand hC dX9_goesTo_36 ?_
    have hz := hJ3
    try simp only [if_neg c2] at hz
    first | exact hz | (simp only [if_neg c2]; exact hz)
  · have c2 : now (5 + tn (home p1)) = 2 := c2
    refine vv_iconst (v := 0) hC dX9_goesTo_17 (by decide) ?_
    refine vv_goto hC 37 dX9_goesTo_18 (by decide) ?_
    have hz := hJ3
    try simp only [if_pos c2] at hz
    first | exact hz | (simp only [if_pos c2]; exact hz)
def f_X9_mayOf (x_houses : Nat) (now : Nat → Int32) (home : Nat → Int32) (path : Nat → Int32) (p1 : Nat) : Int32 := (if f_X9_of now p1 0 = 1 then (if f_X9_isThere now p1 = true then (if f_X9_of now p1 3 = 0 then f_X9_goesTo x_houses now home path p1 else (0 : Int32)) else (0 : Int32)) else (0 : Int32))
set_option maxHeartbeats 4000000 in
set_option maxRecDepth 100000 in
theorem c_X9_mayOf (g : GT) (w0 : Wd) (B : Nat → Nat) (hB : ∀ i j, i < 60 → j < 60 → B i = B j → i = j) (x_thrown : Int32) (x_houses : Nat) (x_people : Nat) (x_paths : Nat) (x_acts : Nat) (x_size : Nat) (x_at : Nat) (x_readHouses : Nat) (x_readPeople : Nat) (x_readPaths : Nat) (x_sights : Nat) (x_drawn : Int64) (now : Nat → Int32) (home : Nat → Int32) (path : Nat → Int32) (p1 : Nat) (hp : p1 < 6) (hxh : x_houses ≤ 4) (hom : ∀ q, q < 6 → home q = nI (tn (home q)) ∧ tn (home q) < 4) (h_m : w0 (B 0) = some (.inr (9, cM B (x_thrown, x_houses, x_people, x_paths, x_acts, x_size, x_at, x_readHouses, x_readPeople, x_readPaths, x_sights, x_drawn)))) (h_now : w0 (B 7) = some (.inl (g.2.2.1 0, 43, .inl now))) (h_home : w0 (B 5) = some (.inl (g.2.2.1 0, 6, .inl home))) (h_path : w0 (B 4) = some (.inl (g.2.2.1 0, 16, .inl path))) : CT g yX9_mayOf cX9_mayOf 2 (some .int) 2 45 0 0 w0 [.ref (B 0), .int (nI p1)] (fun r w2 => r = some (.int (f_X9_mayOf x_houses now home path p1)) ∧ w0 = w2) := by
  refine CT.of (own := RX9) (by decide +kernel) rfl (Nat.le_of_ble_eq_true rfl) (fun X hC hR hI => ?_)
  show V g X 2 w0 0 0 0 [(0, .ref (B 0)), (1, .int (nI p1))] []
  refine vv_aload_n hC 0 dX9_mayOf_0 rfl rfl ?_
  refine vv_iload_n hC 1 dX9_mayOf_1 rfl rfl ?_
  refine vv_iconst (v := 0) hC dX9_mayOf_2 (by decide) ?_
  refine vv_callV hC dX9_mayOf_3 md_X9_of lk_m_X9_83 lk_i_X9_of lk_s_X9_of h_m rfl (As := [.int (nI p1), .int 0]) (rest := []) (c_X9_of g w0 B hB x_thrown x_houses x_people x_paths x_acts x_size x_at x_readHouses x_readPeople x_readPaths x_sights x_drawn now p1 0 (by omega) (by omega) h_m h_now) rfl rfl (Nat.le_of_ble_eq_true rfl) ⟨by decide, by decide, by decide, by decide⟩ (fun r w9 hq => ?_)
  obtain ⟨rfl, rfl⟩ := hq
  show V g X 2 w0 0 0 6 [(0, .ref (B 0)), (1, .int (nI p1))] [.int (f_X9_of now p1 0)]
  refine vv_iconst (v := 1) hC dX9_mayOf_6 (by decide) ?_
  have hJ2 : V g X 2 w0 0 0 36 [(0, .ref (B 0)), (1, .int (nI p1))] [.int (if f_X9_of now p1 0 = 1 then (if f_X9_isThere now p1 = true then (if f_X9_of now p1 3 = 0 then f_X9_goesTo x_houses now home path p1 else (0 : Int32)) else (0 : Int32)) else (0 : Int32))] := by
    have hf : (f_X9_mayOf x_houses now home path p1) = (if f_X9_of now p1 0 = 1 then (if f_X9_isThere now p1 = true then (if f_X9_of now p1 3 = 0 then f_X9_goesTo x_houses now home path p1 else (0 : Int32)) else (0 : Int32)) else (0 : Int32)) := by first | (simp only [f_X9_mayOf]; done) | rfl | (simp only [f_X9_mayOf]; rfl)
    refine vv_iret hC hR rfl dX9_mayOf_36 (by omega) (by omega) ?_
    rw [hf]
    exact ⟨rfl, rfl⟩
  refine vv_icmp_ne hC 35 dX9_mayOf_7 (by decide) (fun c1 => ?_) (fun c1 => ?_)
  · have c1 : ¬ (f_X9_of now p1 0 = 1) := c1
    refine vv_iconst (v := 0) hC dX9_mayOf_35 (by decide) ?_
    have hz := hJ2
    try simp only [if_neg c1] at hz
    first | exact hz | (simp only [if_neg c1]; exact hz)
  · have c1 : f_X9_of now p1 0 = 1 := c1
    refine vv_aload_n hC 0 dX9_mayOf_10 rfl rfl ?_
    refine vv_iload_n hC 1 dX9_mayOf_11 rfl rfl ?_
    refine vv_callV hC dX9_mayOf_12 md_X9_isThere lk_m_X9_87 lk_i_X9_isThere lk_s_X9_isThere h_m rfl (As := [.int (nI p1)]) (rest := []) (c_X9_isThere g w0 B hB x_thrown x_houses x_people x_paths x_acts x_size x_at x_readHouses x_readPeople x_readPaths x_sights x_drawn now p1 (by omega) h_m h_now) rfl rfl (Nat.le_of_ble_eq_true rfl) ⟨by decide, by decide, by decide, by decide⟩ (fun r w9 hq => ?_)
    obtain ⟨rfl, rfl⟩ := hq
    show V g X 2 w0 0 0 15 [(0, .ref (B 0)), (1, .int (nI p1))] [.int (bI (f_X9_isThere now p1))]
    refine vv_if_eq hC 35 dX9_mayOf_15 (by decide) (fun c3 => ?_) (fun c3 => ?_)
    · have c3 : ¬ (f_X9_isThere now p1 = true) := bI_f c3
      refine vv_iconst (v := 0) hC dX9_mayOf_35 (by decide) ?_
      have hz := hJ2
      try simp only [if_pos c1, if_neg c3] at hz
      first | exact hz | (simp only [if_pos c1, if_neg c3]; exact hz)
    · have c3 : f_X9_isThere now p1 = true := bI_t c3
      refine vv_aload_n hC 0 dX9_mayOf_18 rfl rfl ?_
      refine vv_iload_n hC 1 dX9_mayOf_19 rfl rfl ?_
      refine vv_iconst (v := 3) hC dX9_mayOf_20 (by decide) ?_
      refine vv_callV hC dX9_mayOf_21 md_X9_of lk_m_X9_83 lk_i_X9_of lk_s_X9_of h_m rfl (As := [.int (nI p1), .int 3]) (rest := []) (c_X9_of g w0 B hB x_thrown x_houses x_people x_paths x_acts x_size x_at x_readHouses x_readPeople x_readPaths x_sights x_drawn now p1 3 (by omega) (by omega) h_m h_now) rfl rfl (Nat.le_of_ble_eq_true rfl) ⟨by decide, by decide, by decide, by decide⟩ (fun r w9 hq => ?_)
      obtain ⟨rfl, rfl⟩ := hq
      show V g X 2 w0 0 0 24 [(0, .ref (B 0)), (1, .int (nI p1))] [.int (f_X9_of now p1 3)]
      refine vv_if_ne hC 35 dX9_mayOf_24 (by decide) (fun c4 => ?_) (fun c4 => ?_)
      · have c4 : ¬ (f_X9_of now p1 3 = 0) := c4
        refine vv_iconst (v := 0) hC dX9_mayOf_35 (by decide) ?_
        have hz := hJ2
        try simp only [if_pos c1, if_pos c3, if_neg c4] at hz
        first | exact hz | (simp only [if_pos c1, if_pos c3, if_neg c4]; exact hz)
      · have c4 : f_X9_of now p1 3 = 0 := c4
        refine vv_aload_n hC 0 dX9_mayOf_27 rfl rfl ?_
        refine vv_iload_n hC 1 dX9_mayOf_28 rfl rfl ?_
        refine vv_callV hC dX9_mayOf_29 md_X9_goesTo lk_m_X9_174 lk_i_X9_goesTo lk_s_X9_goesTo h_m rfl (As := [.int (nI p1)]) (rest := []) (c_X9_goesTo g w0 B hB x_thrown x_houses x_people x_paths x_acts x_size x_at x_readHouses x_readPeople x_readPaths x_sights x_drawn now home path p1 (by omega) (by omega) (hom) h_m h_now h_home h_path) rfl rfl (Nat.le_of_ble_eq_true rfl) ⟨by decide, by decide, by decide, by decide⟩ (fun r w9 hq => ?_)
        obtain ⟨rfl, rfl⟩ := hq
        show V g X 2 w0 0 0 32 [(0, .ref (B 0)), (1, .int (nI p1))] [.int (f_X9_goesTo x_houses now home path p1)]
        refine vv_goto hC 36 dX9_mayOf_32 (by decide) ?_
        have hz := hJ2
        try simp only [if_pos c1, if_pos c3, if_pos c4] at hz
        first | exact hz | (simp only [if_pos c1, if_pos c3, if_pos c4]; exact hz)
def f_X9_preyOf_L2 (now : Nat → Int32) (home : Nat → Int32) (kin : Nat → Int32) (p1 : Nat) (p2 : Nat) : Nat → Nat → Int32
  | 0, k2 => (-9)
  | r2 + 1, k2 => (if now (1 + p2) = 0 then (if home k2 = nI p2 then (if f_X9_isThere now k2 = true then (if f_X9_of now k2 0 = 0 then (if f_X9_of now k2 1 = 0 then (if f_X9_has (kin p1) (nI k2) = true then f_X9_preyOf_L2 now home kin p1 p2 r2 (k2 + 1) else nI k2) else f_X9_preyOf_L2 now home kin p1 p2 r2 (k2 + 1)) else f_X9_preyOf_L2 now home kin p1 p2 r2 (k2 + 1)) else f_X9_preyOf_L2 now home kin p1 p2 r2 (k2 + 1)) else f_X9_preyOf_L2 now home kin p1 p2 r2 (k2 + 1)) else (-9))
def f_X9_preyOf (x_people : Nat) (now : Nat → Int32) (home : Nat → Int32) (kin : Nat → Int32) (p1 : Nat) (p2 : Nat) : Int32 := f_X9_preyOf_L2 now home kin p1 p2 x_people 0
set_option maxHeartbeats 4000000 in
set_option maxRecDepth 100000 in
theorem c_X9_preyOf (g : GT) (w0 : Wd) (B : Nat → Nat) (hB : ∀ i j, i < 60 → j < 60 → B i = B j → i = j) (x_thrown : Int32) (x_houses : Nat) (x_people : Nat) (x_paths : Nat) (x_acts : Nat) (x_size : Nat) (x_at : Nat) (x_readHouses : Nat) (x_readPeople : Nat) (x_readPaths : Nat) (x_sights : Nat) (x_drawn : Int64) (now : Nat → Int32) (home : Nat → Int32) (kin : Nat → Int32) (p1 : Nat) (p2 : Nat) (hq : p1 < 6) (hh : p2 < 4) (hxp : x_people ≤ 6) (h_m : w0 (B 0) = some (.inr (9, cM B (x_thrown, x_houses, x_people, x_paths, x_acts, x_size, x_at, x_readHouses, x_readPeople, x_readPaths, x_sights, x_drawn)))) (h_now : w0 (B 7) = some (.inl (g.2.2.1 0, 43, .inl now))) (h_home : w0 (B 5) = some (.inl (g.2.2.1 0, 6, .inl home))) (h_kin : w0 (B 6) = some (.inl (g.2.2.1 0, 6, .inl kin))) : CT g yX9_preyOf cX9_preyOf 4 (some .int) 2 43 0 0 w0 [.ref (B 0), .int (nI p1), .int (nI p2)] (fun r w2 => r = some (.int (f_X9_preyOf x_people now home kin p1 p2)) ∧ w0 = w2) := by
  refine CT.of (own := RX9) (by decide +kernel) rfl (Nat.le_of_ble_eq_true rfl) (fun X hC hR hI => ?_)
  show V g X 4 w0 0 0 0 [(0, .ref (B 0)), (1, .int (nI p1)), (2, .int (nI p2))] []
  refine vv_iconst (v := 0) hC dX9_preyOf_0 (by decide) ?_
  refine vv_istore_n (lv2 := [(3, .int 0), (0, .ref (B 0)), (1, .int (nI p1)), (2, .int (nI p2))]) hC dX9_preyOf_1 rfl (by decide) rfl ?_
  have hL7 : ∀ (r2 k2 : Nat), k2 + r2 = x_people → (f_X9_preyOf x_people now home kin p1 p2) = f_X9_preyOf_L2 now home kin p1 p2 r2 k2 → V g X 4 w0 0 0 2 [(0, .ref (B 0)), (1, .int (nI p1)), (2, .int (nI p2)), (3, .int (nI k2))] [] := by
    intro r2
    induction r2 with
    | zero =>
      intro k2 hb ho 
      refine vv_iload_n hC 3 dX9_preyOf_2 rfl rfl ?_
      refine vv_aload_n hC 0 dX9_preyOf_3 rfl rfl ?_
      refine vv_get (v := .int (nI x_people)) hC fl_X9_80 dX9_preyOf_4 h_m rfl ?_
      refine vv_icmp_ge hC 78 dX9_preyOf_7 (by decide) (fun c => ?_) (fun c => False.elim (c ((nI_le_ (a := x_people) (b := k2) (by omega) (by omega)).mpr (by omega))))
      refine vv_bipush (v := (-9)) hC dX9_preyOf_78 (by decide) ?_
      have hf : (f_X9_preyOf x_people now home kin p1 p2) = (-9) := ho.trans (by first | (simp only [f_X9_preyOf_L2]; done) | rfl | (simp only [f_X9_preyOf_L2]; rfl))
      refine vv_iret hC hR rfl dX9_preyOf_80 (by omega) (by omega) ?_
      rw [hf]
      exact ⟨rfl, rfl⟩
    | succ r2 ih =>
      intro k2 hb ho 
      refine vv_iload_n hC 3 dX9_preyOf_2 rfl rfl ?_
      refine vv_aload_n hC 0 dX9_preyOf_3 rfl rfl ?_
      refine vv_get (v := .int (nI x_people)) hC fl_X9_80 dX9_preyOf_4 h_m rfl ?_
      refine vv_icmp_ge hC 78 dX9_preyOf_7 (by decide) (fun c => absurd ((nI_le_ (a := x_people) (b := k2) (by omega) (by omega)).mp c) (by first | omega | decide)) (fun c => ?_)
      refine vv_aload_n hC 0 dX9_preyOf_10 rfl rfl ?_
      refine vv_get (v := .ref (B 7)) hC fl_X9_19 dX9_preyOf_11 h_m rfl ?_
      refine vv_iconst (v := 1) hC dX9_preyOf_14 (by decide) ?_
      refine vv_iload_n hC 2 dX9_preyOf_15 rfl rfl ?_
      refine vv_iadd hC dX9_preyOf_16 ?_
      refine vv_topi (nI (1 + p2)) (nI_add 1 p2) ?_
      refine vv_ialdn (t := 1 + p2) hC dX9_preyOf_17 h_now (by omega) (by decide) ?_
      refine vv_if_ne hC 78 dX9_preyOf_18 (by decide) (fun c1 => ?_) (fun c1 => ?_)
      · have c1 : ¬ (now (1 + p2) = 0) := c1
        refine vv_bipush (v := (-9)) hC dX9_preyOf_78 (by decide) ?_
        have hf : (f_X9_preyOf x_people now home kin p1 p2) = (-9) := ho.trans (by first | (simp only [f_X9_preyOf_L2, if_neg c1]; done) | rfl | (simp only [f_X9_preyOf_L2, if_neg c1]; rfl))
        refine vv_iret hC hR rfl dX9_preyOf_80 (by omega) (by omega) ?_
        rw [hf]
        exact ⟨rfl, rfl⟩
      · have c1 : now (1 + p2) = 0 := c1
        refine vv_aload_n hC 0 dX9_preyOf_21 rfl rfl ?_
        refine vv_get (v := .ref (B 5)) hC fl_X9_13 dX9_preyOf_22 h_m rfl ?_
        refine vv_iload_n hC 3 dX9_preyOf_25 rfl rfl ?_
        refine vv_ialdn (t := k2) hC dX9_preyOf_26 h_home (by omega) (by decide) ?_
        refine vv_iload_n hC 2 dX9_preyOf_27 rfl rfl ?_
        refine vv_icmp_ne hC 72 dX9_preyOf_28 (by decide) (fun c2 => ?_) (fun c2 => ?_)
        · have c2 : ¬ (home k2 = nI p2) := c2
          refine vv_iinc (lv2 := [(3, .int (nI (k2 + 1))), (0, .ref (B 0)), (1, .int (nI p1)), (2, .int (nI p2))]) hC 3 dX9_preyOf_72 rfl (nI_add k2 1) (by decide) rfl ?_
          refine vv_goto hC 2 dX9_preyOf_75 (by decide) ?_
          refine vv_lv [1, 2, 3, 0] rfl ?_
          exact ih (k2 + 1) (by omega) (ho.trans (by first | (simp only [f_X9_preyOf_L2, if_pos c1, if_neg c2]; done) | rfl | (simp only [f_X9_preyOf_L2, if_pos c1, if_neg c2]; rfl)))
        · have c2 : home k2 = nI p2 := c2
          refine vv_aload_n hC 0 dX9_preyOf_31 rfl rfl ?_
          refine vv_iload_n hC 3 dX9_preyOf_32 rfl rfl ?_
          refine vv_callV hC dX9_preyOf_33 md_X9_isThere lk_m_X9_87 lk_i_X9_isThere lk_s_X9_isThere h_m rfl (As := [.int (nI k2)]) (rest := []) (c_X9_isThere g w0 B hB x_thrown x_houses x_people x_paths x_acts x_size x_at x_readHouses x_readPeople x_readPaths x_sights x_drawn now k2 (by omega) h_m h_now) rfl rfl (Nat.le_of_ble_eq_true rfl) ⟨by decide, by decide, by decide, by decide⟩ (fun r w9 hq => ?_)
          obtain ⟨rfl, rfl⟩ := hq
          show V g X 4 w0 0 0 36 [(0, .ref (B 0)), (1, .int (nI p1)), (2, .int (nI p2)), (3, .int (nI k2))] [.int (bI (f_X9_isThere now k2))]
          refine vv_if_eq hC 72 dX9_preyOf_36 (by decide) (fun c3 => ?_) (fun c3 => ?_)
          · have c3 : ¬ (f_X9_isThere now k2 = true) := bI_f c3
            refine vv_iinc (lv2 := [(3, .int (nI (k2 + 1))), (0, .ref (B 0)), (1, .int (nI p1)), (2, .int (nI p2))]) hC 3 dX9_preyOf_72 rfl (nI_add k2 1) (by decide) rfl ?_
            refine vv_goto hC 2 dX9_preyOf_75 (by decide) ?_
            refine vv_lv [1, 2, 3, 0] rfl ?_
            exact ih (k2 + 1) (by omega) (ho.trans (by first | (simp only [f_X9_preyOf_L2, if_pos c1, if_pos c2, if_neg c3]; done) | rfl | (simp only [f_X9_preyOf_L2, if_pos c1, if_pos c2, if_neg c3]; rfl)))
          · have c3 : f_X9_isThere now k2 = true := bI_t c3
            refine vv_aload_n hC 0 dX9_preyOf_39 rfl rfl ?_
            refine vv_iload_n hC 3 dX9_preyOf_40 rfl rfl ?_
            refine vv_iconst (v := 0) hC dX9_preyOf_41 (by decide) ?_
            refine vv_callV hC dX9_preyOf_42 md_X9_of lk_m_X9_83 lk_i_X9_of lk_s_X9_of h_m rfl (As := [.int (nI k2), .int 0]) (rest := []) (c_X9_of g w0 B hB x_thrown x_houses x_people x_paths x_acts x_size x_at x_readHouses x_readPeople x_readPaths x_sights x_drawn now k2 0 (by omega) (by omega) h_m h_now) rfl rfl (Nat.le_of_ble_eq_true rfl) ⟨by decide, by decide, by decide, by decide⟩ (fun r w9 hq => ?_)
            obtain ⟨rfl, rfl⟩ := hq
            show V g X 4 w0 0 0 45 [(0, .ref (B 0)), (1, .int (nI p1)), (2, .int (nI p2)), (3, .int (nI k2))] [.int (f_X9_of now k2 0)]
            refine vv_if_ne hC 72 dX9_preyOf_45 (by decide) (fun c4 => ?_) (fun c4 => ?_)
            · have c4 : ¬ (f_X9_of now k2 0 = 0) := c4
              refine vv_iinc (lv2 := [(3, .int (nI (k2 + 1))), (0, .ref (B 0)), (1, .int (nI p1)), (2, .int (nI p2))]) hC 3 dX9_preyOf_72 rfl (nI_add k2 1) (by decide) rfl ?_
              refine vv_goto hC 2 dX9_preyOf_75 (by decide) ?_
              refine vv_lv [1, 2, 3, 0] rfl ?_
              exact ih (k2 + 1) (by omega) (ho.trans (by first | (simp only [f_X9_preyOf_L2, if_pos c1, if_pos c2, if_pos c3, if_neg c4]; done) | rfl | (simp only [f_X9_preyOf_L2, if_pos c1, if_pos c2, if_pos c3, if_neg c4]; rfl)))
            · have c4 : f_X9_of now k2 0 = 0 := c4
              refine vv_aload_n hC 0 dX9_preyOf_48 rfl rfl ?_
              refine vv_iload_n hC 3 dX9_preyOf_49 rfl rfl ?_
              refine vv_iconst (v := 1) hC dX9_preyOf_50 (by decide) ?_
              refine vv_callV hC dX9_preyOf_51 md_X9_of lk_m_X9_83 lk_i_X9_of lk_s_X9_of h_m rfl (As := [.int (nI k2), .int 1]) (rest := []) (c_X9_of g w0 B hB x_thrown x_houses x_people x_paths x_acts x_size x_at x_readHouses x_readPeople x_readPaths x_sights x_drawn now k2 1 (by omega) (by omega) h_m h_now) rfl rfl (Nat.le_of_ble_eq_true rfl) ⟨by decide, by decide, by decide, by decide⟩ (fun r w9 hq => ?_)
              obtain ⟨rfl, rfl⟩ := hq
              show V g X 4 w0 0 0 54 [(0, .ref (B 0)), (1, .int (nI p1)), (2, .int (nI p2)), (3, .int (nI k2))] [.int (f_X9_of now k2 1)]
              refine vv_if_ne hC 72 dX9_preyOf_54 (by decide) (fun c5 => ?_) (fun c5 => ?_)
              · have c5 : ¬ (f_X9_of now k2 1 = 0) := c5
                refine vv_iinc (lv2 := [(3, .int (nI (k2 + 1))), (0, .ref (B 0)), (1, .int (nI p1)), (2, .int (nI p2))]) hC 3 dX9_preyOf_72 rfl (nI_add k2 1) (by decide) rfl ?_
                refine vv_goto hC 2 dX9_preyOf_75 (by decide) ?_
                refine vv_lv [1, 2, 3, 0] rfl ?_
                exact ih (k2 + 1) (by omega) (ho.trans (by first | (simp only [f_X9_preyOf_L2, if_pos c1, if_pos c2, if_pos c3, if_pos c4, if_neg c5]; done) | rfl | (simp only [f_X9_preyOf_L2, if_pos c1, if_pos c2, if_pos c3, if_pos c4, if_neg c5]; rfl)))
              · have c5 : f_X9_of now k2 1 = 0 := c5
                refine vv_aload_n hC 0 dX9_preyOf_57 rfl rfl ?_
                refine vv_get (v := .ref (B 6)) hC fl_X9_16 dX9_preyOf_58 h_m rfl ?_
                refine vv_iload_n hC 1 dX9_preyOf_61 rfl rfl ?_
                refine vv_ialdn (t := p1) hC dX9_preyOf_62 h_kin (by omega) (by decide) ?_
                refine vv_iload_n hC 3 dX9_preyOf_63 rfl rfl ?_
                refine vv_callS hC dX9_preyOf_64 md_X9_has lk_m_X9_127 lk_t_X9_has (As := [.int (kin p1), .int (nI k2)]) (rest := []) (c_X9_has g w0 (kin p1) (nI k2)) rfl rfl (Nat.le_of_ble_eq_true rfl) ⟨by decide, by decide, by decide, by decide⟩ (fun r w9 hq => ?_)
                obtain ⟨rfl, rfl⟩ := hq
                show V g X 4 w0 0 0 67 [(0, .ref (B 0)), (1, .int (nI p1)), (2, .int (nI p2)), (3, .int (nI k2))] [.int (bI (f_X9_has (kin p1) (nI k2)))]
                refine vv_if_ne hC 72 dX9_preyOf_67 (by decide) (fun c6 => ?_) (fun c6 => ?_)
                · have c6 : f_X9_has (kin p1) (nI k2) = true := bI_t c6
                  refine vv_iinc (lv2 := [(3, .int (nI (k2 + 1))), (0, .ref (B 0)), (1, .int (nI p1)), (2, .int (nI p2))]) hC 3 dX9_preyOf_72 rfl (nI_add k2 1) (by decide) rfl ?_
                  refine vv_goto hC 2 dX9_preyOf_75 (by decide) ?_
                  refine vv_lv [1, 2, 3, 0] rfl ?_
                  exact ih (k2 + 1) (by omega) (ho.trans (by first | (simp only [f_X9_preyOf_L2, if_pos c1, if_pos c2, if_pos c3, if_pos c4, if_pos c5, if_pos c6]; done) | rfl | (simp only [f_X9_preyOf_L2, if_pos c1, if_pos c2, if_pos c3, if_pos c4, if_pos c5, if_pos c6]; rfl)))
                · have c6 : ¬ (f_X9_has (kin p1) (nI k2) = true) := bI_f c6
                  refine vv_iload_n hC 3 dX9_preyOf_70 rfl rfl ?_
                  have hf : (f_X9_preyOf x_people now home kin p1 p2) = nI k2 := ho.trans (by first | (simp only [f_X9_preyOf_L2, if_pos c1, if_pos c2, if_pos c3, if_pos c4, if_pos c5, if_neg c6]; done) | rfl | (simp only [f_X9_preyOf_L2, if_pos c1, if_pos c2, if_pos c3, if_pos c4, if_pos c5, if_neg c6]; rfl))
                  refine vv_iret hC hR rfl dX9_preyOf_71 (by omega) (by omega) ?_
                  rw [hf]
                  exact ⟨rfl, rfl⟩
  refine vv_lv [1, 2, 3, 0] rfl ?_
  exact hL7 x_people 0 (by omega) (by first | (simp only [f_X9_preyOf]; done) | rfl | (simp only [f_X9_preyOf]; rfl))
def f_X9_seed (x_drawn : Int64) (p1 : Int64) : Int64 × Int32 × Int64 := (x_drawn, 0, p1)
set_option maxHeartbeats 4000000 in
set_option maxRecDepth 100000 in
theorem c_X9_seed (g : GT) (w0 : Wd) (B : Nat → Nat) (hB : ∀ i j, i < 60 → j < 60 → B i = B j → i = j) (x_thrown : Int32) (x_houses : Nat) (x_people : Nat) (x_paths : Nat) (x_acts : Nat) (x_size : Nat) (x_at : Nat) (x_readHouses : Nat) (x_readPeople : Nat) (x_readPaths : Nat) (x_sights : Nat) (x_drawn : Int64) (p1 : Int64) (h_m : w0 (B 0) = some (.inr (9, cM B (x_thrown, x_houses, x_people, x_paths, x_acts, x_size, x_at, x_readHouses, x_readPeople, x_readPaths, x_sights, x_drawn)))) : CT g yX9_seed cX9_seed 5 (some .long) 0 0 0 0 w0 [.ref (B 0), .long p1] (fun r w2 => r = some (.long ((f_X9_seed x_drawn p1).1)) ∧ w2 (B 0) = some (.inr (9, cM B ((f_X9_seed x_drawn p1).2.1, x_houses, x_people, x_paths, x_acts, x_size, x_at, x_readHouses, x_readPeople, x_readPaths, x_sights, (f_X9_seed x_drawn p1).2.2))) ∧ wE (fun q => q = (B 0)) w0 w2) := by
  refine CT.of (own := RX9) (by decide +kernel) rfl (Nat.le_of_ble_eq_true rfl) (fun X hC hR hI => ?_)
  show V g X 5 w0 0 0 0 [(0, .ref (B 0)), (1, .long p1)] []
  have hE : wE (fun q => q = (B 0)) w0 w0 := wE.refl
  refine vv_aload_n hC 0 dX9_seed_0 rfl rfl ?_
  refine vv_iconst (v := 0) hC dX9_seed_1 (by decide) ?_
  refine vv_put hC fp_X9_69 dX9_seed_2 h_m rfl rfl (Nat.le_of_ble_eq_true rfl) (fun w1 t1 hs => ?_)
  have t1 : w1 (B 0) = some (.inr (9, cM B (0, x_houses, x_people, x_paths, x_acts, x_size, x_at, x_readHouses, x_readPeople, x_readPaths, x_sights, x_drawn))) := t1.trans (congrArg (fun z => some (Sum.inr (9, z))) (eM_thrown _ _ _ _ _ _ _ _ _ _ _ _ _ _))
  have h_m := t1
  have hE := hE.trans (hs.mono (fun _ z => z))
  refine vv_aload_n hC 0 dX9_seed_5 rfl rfl ?_
  refine vv_get (v := .long x_drawn) hC fl_X9_273 dX9_seed_6 h_m rfl ?_
  refine vv_lstore_n (lv2 := [(3, .long x_drawn), (0, .ref (B 0)), (1, .long p1)]) hC dX9_seed_9 rfl (by decide) rfl ?_
  refine vv_aload_n hC 1 dX9_seed_10 rfl rfl ?_
  refine vv_lload_n hC 2 dX9_seed_11 rfl rfl ?_
  refine vv_put hC fp_X9_273 dX9_seed_12 h_m rfl rfl (Nat.le_of_ble_eq_true rfl) (fun w2 t1 hs => ?_)
  have t1 : w2 (B 0) = some (.inr (9, cM B (0, x_houses, x_people, x_paths, x_acts, x_size, x_at, x_readHouses, x_readPeople, x_readPaths, x_sights, p1))) := t1.trans (congrArg (fun z => some (Sum.inr (9, z))) (eM_drawn _ _ _ _ _ _ _ _ _ _ _ _ _ _))
  have h_m := t1
  have hE := hE.trans (hs.mono (fun _ z => z))
  refine vv_lload_n hC 0 dX9_seed_15 rfl rfl ?_
  have hf : (f_X9_seed x_drawn p1) = (x_drawn, 0, p1) := by first | (simp only [f_X9_seed]; done) | rfl | (simp only [f_X9_seed]; rfl)
  refine vv_lret hC hR rfl dX9_seed_16 (by omega) (by omega) ?_
  rw [hf]
  try dsimp only
  exact ⟨rfl, h_m, hE⟩
def f_X9_wipe (x_size : Nat) : Int32 × Int32 × Nat := (nI x_size, 0, 0)
set_option maxHeartbeats 4000000 in
set_option maxRecDepth 100000 in
theorem c_X9_wipe (g : GT) (w0 : Wd) (B : Nat → Nat) (hB : ∀ i j, i < 60 → j < 60 → B i = B j → i = j) (x_thrown : Int32) (x_houses : Nat) (x_people : Nat) (x_paths : Nat) (x_acts : Nat) (x_size : Nat) (x_at : Nat) (x_readHouses : Nat) (x_readPeople : Nat) (x_readPaths : Nat) (x_sights : Nat) (x_drawn : Int64) (h_m : w0 (B 0) = some (.inr (9, cM B (x_thrown, x_houses, x_people, x_paths, x_acts, x_size, x_at, x_readHouses, x_readPeople, x_readPaths, x_sights, x_drawn)))) : CT g yX9_wipe cX9_wipe 2 (some .int) 0 0 0 0 w0 [.ref (B 0)] (fun r w2 => r = some (.int ((f_X9_wipe x_size).1)) ∧ w2 (B 0) = some (.inr (9, cM B ((f_X9_wipe x_size).2.1, x_houses, x_people, x_paths, x_acts, (f_X9_wipe x_size).2.2, x_at, x_readHouses, x_readPeople, x_readPaths, x_sights, x_drawn))) ∧ wE (fun q => q = (B 0)) w0 w2) := by
  refine CT.of (own := RX9) (by decide +kernel) rfl (Nat.le_of_ble_eq_true rfl) (fun X hC hR hI => ?_)
  show V g X 2 w0 0 0 0 [(0, .ref (B 0))] []
  have hE : wE (fun q => q = (B 0)) w0 w0 := wE.refl
  refine vv_aload_n hC 0 dX9_wipe_0 rfl rfl ?_
  refine vv_iconst (v := 0) hC dX9_wipe_1 (by decide) ?_
  refine vv_put hC fp_X9_69 dX9_wipe_2 h_m rfl rfl (Nat.le_of_ble_eq_true rfl) (fun w1 t1 hs => ?_)
  have t1 : w1 (B 0) = some (.inr (9, cM B (0, x_houses, x_people, x_paths, x_acts, x_size, x_at, x_readHouses, x_readPeople, x_readPaths, x_sights, x_drawn))) := t1.trans (congrArg (fun z => some (Sum.inr (9, z))) (eM_thrown _ _ _ _ _ _ _ _ _ _ _ _ _ _))
  have h_m := t1
  have hE := hE.trans (hs.mono (fun _ z => z))
  refine vv_aload_n hC 0 dX9_wipe_5 rfl rfl ?_
  refine vv_get (v := .int (nI x_size)) hC fl_X9_93 dX9_wipe_6 h_m rfl ?_
  refine vv_istore_n (lv2 := [(1, .int (nI x_size)), (0, .ref (B 0))]) hC dX9_wipe_9 rfl (by decide) rfl ?_
  refine vv_aload_n hC 1 dX9_wipe_10 rfl rfl ?_
  refine vv_iconst (v := 0) hC dX9_wipe_11 (by decide) ?_
  refine vv_put hC fp_X9_93 dX9_wipe_12 h_m rfl rfl (Nat.le_of_ble_eq_true rfl) (fun w2 t1 hs => ?_)
  have t1 : w2 (B 0) = some (.inr (9, cM B (0, x_houses, x_people, x_paths, x_acts, 0, x_at, x_readHouses, x_readPeople, x_readPaths, x_sights, x_drawn))) := t1.trans (congrArg (fun z => some (Sum.inr (9, z))) (eM_size _ _ _ _ _ _ _ _ _ _ _ _ _ _))
  have h_m := t1
  have hE := hE.trans (hs.mono (fun _ z => z))
  refine vv_iload_n hC 0 dX9_wipe_15 rfl rfl ?_
  have hf : (f_X9_wipe x_size) = (nI x_size, 0, 0) := by first | (simp only [f_X9_wipe]; done) | rfl | (simp only [f_X9_wipe]; rfl)
  refine vv_iret hC hR rfl dX9_wipe_16 (by omega) (by omega) ?_
  rw [hf]
  try dsimp only
  exact ⟨rfl, h_m, hE⟩
def f_X9_unsee (x_sights : Nat) : Int32 × Int32 × Nat := (nI x_sights, 0, 0)
set_option maxHeartbeats 4000000 in
set_option maxRecDepth 100000 in
theorem c_X9_unsee (g : GT) (w0 : Wd) (B : Nat → Nat) (hB : ∀ i j, i < 60 → j < 60 → B i = B j → i = j) (x_thrown : Int32) (x_houses : Nat) (x_people : Nat) (x_paths : Nat) (x_acts : Nat) (x_size : Nat) (x_at : Nat) (x_readHouses : Nat) (x_readPeople : Nat) (x_readPaths : Nat) (x_sights : Nat) (x_drawn : Int64) (h_m : w0 (B 0) = some (.inr (9, cM B (x_thrown, x_houses, x_people, x_paths, x_acts, x_size, x_at, x_readHouses, x_readPeople, x_readPaths, x_sights, x_drawn)))) : CT g yX9_unsee cX9_unsee 2 (some .int) 0 0 0 0 w0 [.ref (B 0)] (fun r w2 => r = some (.int ((f_X9_unsee x_sights).1)) ∧ w2 (B 0) = some (.inr (9, cM B ((f_X9_unsee x_sights).2.1, x_houses, x_people, x_paths, x_acts, x_size, x_at, x_readHouses, x_readPeople, x_readPaths, (f_X9_unsee x_sights).2.2, x_drawn))) ∧ wE (fun q => q = (B 0)) w0 w2) := by
  refine CT.of (own := RX9) (by decide +kernel) rfl (Nat.le_of_ble_eq_true rfl) (fun X hC hR hI => ?_)
  show V g X 2 w0 0 0 0 [(0, .ref (B 0))] []
  have hE : wE (fun q => q = (B 0)) w0 w0 := wE.refl
  refine vv_aload_n hC 0 dX9_unsee_0 rfl rfl ?_
  refine vv_iconst (v := 0) hC dX9_unsee_1 (by decide) ?_
  refine vv_put hC fp_X9_69 dX9_unsee_2 h_m rfl rfl (Nat.le_of_ble_eq_true rfl) (fun w1 t1 hs => ?_)
  have t1 : w1 (B 0) = some (.inr (9, cM B (0, x_houses, x_people, x_paths, x_acts, x_size, x_at, x_readHouses, x_readPeople, x_readPaths, x_sights, x_drawn))) := t1.trans (congrArg (fun z => some (Sum.inr (9, z))) (eM_thrown _ _ _ _ _ _ _ _ _ _ _ _ _ _))
  have h_m := t1
  have hE := hE.trans (hs.mono (fun _ z => z))
  refine vv_aload_n hC 0 dX9_unsee_5 rfl rfl ?_
  refine vv_get (v := .int (nI x_sights)) hC fl_X9_203 dX9_unsee_6 h_m rfl ?_
  refine vv_istore_n (lv2 := [(1, .int (nI x_sights)), (0, .ref (B 0))]) hC dX9_unsee_9 rfl (by decide) rfl ?_
  refine vv_aload_n hC 1 dX9_unsee_10 rfl rfl ?_
  refine vv_iconst (v := 0) hC dX9_unsee_11 (by decide) ?_
  refine vv_put hC fp_X9_203 dX9_unsee_12 h_m rfl rfl (Nat.le_of_ble_eq_true rfl) (fun w2 t1 hs => ?_)
  have t1 : w2 (B 0) = some (.inr (9, cM B (0, x_houses, x_people, x_paths, x_acts, x_size, x_at, x_readHouses, x_readPeople, x_readPaths, 0, x_drawn))) := t1.trans (congrArg (fun z => some (Sum.inr (9, z))) (eM_sights _ _ _ _ _ _ _ _ _ _ _ _ _ _))
  have h_m := t1
  have hE := hE.trans (hs.mono (fun _ z => z))
  refine vv_iload_n hC 0 dX9_unsee_15 rfl rfl ?_
  have hf : (f_X9_unsee x_sights) = (nI x_sights, 0, 0) := by first | (simp only [f_X9_unsee]; done) | rfl | (simp only [f_X9_unsee]; rfl)
  refine vv_iret hC hR rfl dX9_unsee_16 (by omega) (by omega) ?_
  rw [hf]
  try dsimp only
  exact ⟨rfl, h_m, hE⟩
