def f_X8_bit (p0 : Int32) : Int32 := ((1 : Int32) <<< (p0 &&& 31))
set_option maxHeartbeats 4000000 in
set_option maxRecDepth 100000 in
theorem c_X8_bit (g : GT) (w0 : Wd) (p0 : Int32) : CT g yX8_bit cX8_bit 1 (some .int) 0 0 0 0 w0 [.int p0] (fun r w2 => r = some (.int (f_X8_bit p0)) ∧ w0 = w2) := by
  refine CT.of (own := RX8) (by decide +kernel) rfl (Nat.le_of_ble_eq_true rfl) (fun X hC hR hI => ?_)
  show V g X 1 w0 0 0 0 [(0, .int p0)] []
  refine vv_iconst (v := 1) hC dX8_bit_0 (by decide) ?_
  refine vv_iload_n hC 0 dX8_bit_1 rfl rfl ?_
  refine vv_ishl hC dX8_bit_2 ?_
  have hf : (f_X8_bit p0) = ((1 : Int32) <<< (p0 &&& 31)) := by first | (simp only [f_X8_bit]; done) | rfl | (simp only [f_X8_bit]; rfl)
  refine vv_iret hC hR rfl dX8_bit_3 (by omega) (by omega) ?_
  rw [hf]
  exact ⟨rfl, rfl⟩
def f_X8_has (p0 : Int32) (p1 : Int32) : Bool := (if ((p0 >>> (p1 &&& 31)) &&& 1) = 1 then true else false)
set_option maxHeartbeats 4000000 in
set_option maxRecDepth 100000 in
theorem c_X8_has (g : GT) (w0 : Wd) (p0 : Int32) (p1 : Int32) : CT g yX8_has cX8_has 2 (some .boolean) 0 0 0 0 w0 [.int p0, .int p1] (fun r w2 => r = some (.int (bI (f_X8_has p0 p1))) ∧ w0 = w2) := by
  refine CT.of (own := RX8) (by decide +kernel) rfl (Nat.le_of_ble_eq_true rfl) (fun X hC hR hI => ?_)
  show V g X 2 w0 0 0 0 [(0, .int p0), (1, .int p1)] []
  refine vv_iload_n hC 0 dX8_has_0 rfl rfl ?_
  refine vv_iload_n hC 1 dX8_has_1 rfl rfl ?_
  refine vv_ishr hC dX8_has_2 ?_
  refine vv_iconst (v := 1) hC dX8_has_3 (by decide) ?_
  refine vv_iand hC dX8_has_4 ?_
  refine vv_iconst (v := 1) hC dX8_has_5 (by decide) ?_
  have hJ2 : V g X 2 w0 0 0 14 [(0, .int p0), (1, .int p1)] [.int (bI (if ((p0 >>> (p1 &&& 31)) &&& 1) = 1 then true else false))] := by
    have hf : (f_X8_has p0 p1) = (if ((p0 >>> (p1 &&& 31)) &&& 1) = 1 then true else false) := by first | (simp only [f_X8_has]; done) | rfl | (simp only [f_X8_has]; rfl)
    refine vv_zret hC hR rfl (bI_nar _) dX8_has_14 (by omega) (by omega) ?_
    rw [hf]
    exact ⟨rfl, rfl⟩
  refine vv_icmp_ne hC 13 dX8_has_6 (by decide) (fun c1 => ?_) (fun c1 => ?_)
  · have c1 : ¬ (((p0 >>> (p1 &&& 31)) &&& 1) = 1) := c1
    refine vv_iconst (v := 0) hC dX8_has_13 (by decide) ?_
    have hz := hJ2
    try simp only [if_neg c1] at hz
    first | exact hz | (simp only [if_neg c1]; exact hz)
  · have c1 : ((p0 >>> (p1 &&& 31)) &&& 1) = 1 := c1
    refine vv_iconst (v := 1) hC dX8_has_9 (by decide) ?_
    refine vv_goto hC 14 dX8_has_10 (by decide) ?_
    have hz := hJ2
    try simp only [if_pos c1] at hz
    first | exact hz | (simp only [if_pos c1]; exact hz)
def f_X8_bitOf (p0 : Int32) (p1 : Int32) : Int32 := ((p0 >>> (p1 &&& 31)) &&& 1)
set_option maxHeartbeats 4000000 in
set_option maxRecDepth 100000 in
theorem c_X8_bitOf (g : GT) (w0 : Wd) (p0 : Int32) (p1 : Int32) : CT g yX8_bitOf cX8_bitOf 2 (some .int) 0 0 0 0 w0 [.int p0, .int p1] (fun r w2 => r = some (.int (f_X8_bitOf p0 p1)) ∧ w0 = w2) := by
  refine CT.of (own := RX8) (by decide +kernel) rfl (Nat.le_of_ble_eq_true rfl) (fun X hC hR hI => ?_)
  show V g X 2 w0 0 0 0 [(0, .int p0), (1, .int p1)] []
  refine vv_iload_n hC 0 dX8_bitOf_0 rfl rfl ?_
  refine vv_iload_n hC 1 dX8_bitOf_1 rfl rfl ?_
  refine vv_ishr hC dX8_bitOf_2 ?_
  refine vv_iconst (v := 1) hC dX8_bitOf_3 (by decide) ?_
  refine vv_iand hC dX8_bitOf_4 ?_
  have hf : (f_X8_bitOf p0 p1) = ((p0 >>> (p1 &&& 31)) &&& 1) := by first | (simp only [f_X8_bitOf]; done) | rfl | (simp only [f_X8_bitOf]; rfl)
  refine vv_iret hC hR rfl dX8_bitOf_5 (by omega) (by omega) ?_
  rw [hf]
  exact ⟨rfl, rfl⟩
def f_X8_below (p0 : Int32) : Int32 := (((1 : Int32) <<< (p0 &&& 31)) - 1)
set_option maxHeartbeats 4000000 in
set_option maxRecDepth 100000 in
theorem c_X8_below (g : GT) (w0 : Wd) (p0 : Int32) : CT g yX8_below cX8_below 1 (some .int) 0 0 0 0 w0 [.int p0] (fun r w2 => r = some (.int (f_X8_below p0)) ∧ w0 = w2) := by
  refine CT.of (own := RX8) (by decide +kernel) rfl (Nat.le_of_ble_eq_true rfl) (fun X hC hR hI => ?_)
  show V g X 1 w0 0 0 0 [(0, .int p0)] []
  refine vv_iconst (v := 1) hC dX8_below_0 (by decide) ?_
  refine vv_iload_n hC 0 dX8_below_1 rfl rfl ?_
  refine vv_ishl hC dX8_below_2 ?_
  refine vv_iconst (v := 1) hC dX8_below_3 (by decide) ?_
  refine vv_isub hC dX8_below_4 ?_
  have hf : (f_X8_below p0) = (((1 : Int32) <<< (p0 &&& 31)) - 1) := by first | (simp only [f_X8_below]; done) | rfl | (simp only [f_X8_below]; rfl)
  refine vv_iret hC hR rfl dX8_below_5 (by omega) (by omega) ?_
  rw [hf]
  exact ⟨rfl, rfl⟩
def f_X8_cell (p0 : Int64) (p2 : Int32) : Int32 := ((lushr p0 (8 * p2)).toInt32 &&& 255)
set_option maxHeartbeats 4000000 in
set_option maxRecDepth 100000 in
theorem c_X8_cell (g : GT) (w0 : Wd) (p0 : Int64) (p2 : Int32) : CT g yX8_cell cX8_cell 3 (some .int) 0 0 0 0 w0 [.long p0, .int p2] (fun r w2 => r = some (.int (f_X8_cell p0 p2)) ∧ w0 = w2) := by
  refine CT.of (own := RX8) (by decide +kernel) rfl (Nat.le_of_ble_eq_true rfl) (fun X hC hR hI => ?_)
  show V g X 3 w0 0 0 0 [(0, .long p0), (2, .int p2)] []
  refine vv_lload_n hC 0 dX8_cell_0 rfl rfl ?_
  refine vv_bipush (v := (8)) hC dX8_cell_1 (by decide) ?_
  refine vv_iload_n hC 1 dX8_cell_3 rfl rfl ?_
  refine vv_imul hC dX8_cell_4 ?_
  refine vv_lushr hC dX8_cell_5 ?_
  refine vv_l2i hC dX8_cell_6 ?_
  refine vv_sipush (v := (255)) hC dX8_cell_7 (by decide) ?_
  refine vv_iand hC dX8_cell_10 ?_
  have hf : (f_X8_cell p0 p2) = ((lushr p0 (8 * p2)).toInt32 &&& 255) := by first | (simp only [f_X8_cell]; done) | rfl | (simp only [f_X8_cell]; rfl)
  refine vv_iret hC hR rfl dX8_cell_11 (by omega) (by omega) ?_
  rw [hf]
  exact ⟨rfl, rfl⟩
def f_X8_withCell (p0 : Int64) (p2 : Int32) (p3 : Int32) : Int64 := ((p0 &&& ((lshl 255 (8 * p2)) ^^^ (-1))) ||| (lshl ((p3 &&& 255).toInt64) (8 * p2)))
set_option maxHeartbeats 4000000 in
set_option maxRecDepth 100000 in
theorem c_X8_withCell (g : GT) (w0 : Wd) (p0 : Int64) (p2 : Int32) (p3 : Int32) : CT g yX8_withCell cX8_withCell 4 (some .long) 0 0 0 0 w0 [.long p0, .int p2, .int p3] (fun r w2 => r = some (.long (f_X8_withCell p0 p2 p3)) ∧ w0 = w2) := by
  refine CT.of (own := RX8) (by decide +kernel) rfl (Nat.le_of_ble_eq_true rfl) (fun X hC hR hI => ?_)
  show V g X 4 w0 0 0 0 [(0, .long p0), (2, .int p2), (3, .int p3)] []
  refine vv_lload_n hC 0 dX8_withCell_0 rfl rfl ?_
  refine vv_ldc2 (v := (255)) hC lk_l_X8_326 dX8_withCell_1 ?_
  refine vv_bipush (v := (8)) hC dX8_withCell_4 (by decide) ?_
  refine vv_iload_n hC 1 dX8_withCell_6 rfl rfl ?_
  refine vv_imul hC dX8_withCell_7 ?_
  refine vv_lshl hC dX8_withCell_8 ?_
  refine vv_ldc2 (v := (-1)) hC lk_l_X8_243 dX8_withCell_9 ?_
  refine vv_lxor hC dX8_withCell_12 ?_
  refine vv_land hC dX8_withCell_13 ?_
  refine vv_iload_n hC 2 dX8_withCell_14 rfl rfl ?_
  refine vv_sipush (v := (255)) hC dX8_withCell_15 (by decide) ?_
  refine vv_iand hC dX8_withCell_18 ?_
  refine vv_i2l hC dX8_withCell_19 ?_
  refine vv_bipush (v := (8)) hC dX8_withCell_20 (by decide) ?_
  refine vv_iload_n hC 1 dX8_withCell_22 rfl rfl ?_
  refine vv_imul hC dX8_withCell_23 ?_
  refine vv_lshl hC dX8_withCell_24 ?_
  refine vv_lor hC dX8_withCell_25 ?_
  have hf : (f_X8_withCell p0 p2 p3) = ((p0 &&& ((lshl 255 (8 * p2)) ^^^ (-1))) ||| (lshl ((p3 &&& 255).toInt64) (8 * p2))) := by first | (simp only [f_X8_withCell]; done) | rfl | (simp only [f_X8_withCell]; rfl)
  refine vv_lret hC hR rfl dX8_withCell_26 (by omega) (by omega) ?_
  rw [hf]
  exact ⟨rfl, rfl⟩
def f_X8_bitNumbered_L4 (p0 : Int32) (p1 : Int32) : Nat → Nat → Int32 → Int32
  | 0, k4, l2_4 => (-9)
  | r4 + 1, k4, l2_4 => (if f_X8_has p0 (nI k4) = true then (if l2_4 = p1 then nI k4 else f_X8_bitNumbered_L4 p0 p1 r4 (k4 + 1) (l2_4 + 1)) else f_X8_bitNumbered_L4 p0 p1 r4 (k4 + 1) l2_4)
def f_X8_bitNumbered (p0 : Int32) (p1 : Int32) : Int32 := f_X8_bitNumbered_L4 p0 p1 8 0 0
set_option maxHeartbeats 4000000 in
set_option maxRecDepth 100000 in
theorem c_X8_bitNumbered (g : GT) (w0 : Wd) (p0 : Int32) (p1 : Int32) : CT g yX8_bitNumbered cX8_bitNumbered 4 (some .int) 1 21 0 0 w0 [.int p0, .int p1] (fun r w2 => r = some (.int (f_X8_bitNumbered p0 p1)) ∧ w0 = w2) := by
  refine CT.of (own := RX8) (by decide +kernel) rfl (Nat.le_of_ble_eq_true rfl) (fun X hC hR hI => ?_)
  show V g X 4 w0 0 0 0 [(0, .int p0), (1, .int p1)] []
  refine vv_iconst (v := 0) hC dX8_bitNumbered_0 (by decide) ?_
  refine vv_istore_n (lv2 := [(2, .int 0), (0, .int p0), (1, .int p1)]) hC dX8_bitNumbered_1 rfl (by decide) rfl ?_
  refine vv_iconst (v := 0) hC dX8_bitNumbered_2 (by decide) ?_
  refine vv_istore_n (lv2 := [(3, .int 0), (2, .int 0), (0, .int p0), (1, .int p1)]) hC dX8_bitNumbered_3 rfl (by decide) rfl ?_
  have hL3 : ∀ (r4 k4 : Nat) (l2_4 : Int32), k4 + r4 = 8 → (f_X8_bitNumbered p0 p1) = f_X8_bitNumbered_L4 p0 p1 r4 k4 l2_4 → V g X 4 w0 0 0 4 [(0, .int p0), (1, .int p1), (2, .int l2_4), (3, .int (nI k4))] [] := by
    intro r4
    induction r4 with
    | zero =>
      intro k4 l2_4 hb ho 
      refine vv_iload_n hC 3 dX8_bitNumbered_4 rfl rfl ?_
      refine vv_bipush (v := (8)) hC dX8_bitNumbered_5 (by decide) ?_
      refine vv_icmp_ge hC 34 dX8_bitNumbered_7 (by decide) (fun c => ?_) (fun c => False.elim (c ((nI_le_ (a := 8) (b := k4) (by omega) (by omega)).mpr (by omega))))
      refine vv_bipush (v := (-9)) hC dX8_bitNumbered_34 (by decide) ?_
      have hf : (f_X8_bitNumbered p0 p1) = (-9) := ho.trans (by first | (simp only [f_X8_bitNumbered_L4]; done) | rfl | (simp only [f_X8_bitNumbered_L4]; rfl))
      refine vv_iret hC hR rfl dX8_bitNumbered_36 (by omega) (by omega) ?_
      rw [hf]
      exact ⟨rfl, rfl⟩
    | succ r4 ih =>
      intro k4 l2_4 hb ho 
      refine vv_iload_n hC 3 dX8_bitNumbered_4 rfl rfl ?_
      refine vv_bipush (v := (8)) hC dX8_bitNumbered_5 (by decide) ?_
      refine vv_icmp_ge hC 34 dX8_bitNumbered_7 (by decide) (fun c => absurd ((nI_le_ (a := 8) (b := k4) (by omega) (by omega)).mp c) (by first | omega | decide)) (fun c => ?_)
      refine vv_iload_n hC 0 dX8_bitNumbered_10 rfl rfl ?_
      refine vv_iload_n hC 3 dX8_bitNumbered_11 rfl rfl ?_
      refine vv_callS hC dX8_bitNumbered_12 md_X8_has lk_m_X8_166 lk_t_X8_has (As := [.int p0, .int (nI k4)]) (rest := []) (c_X8_has g w0 p0 (nI k4)) rfl rfl (Nat.le_of_ble_eq_true rfl) ⟨by decide, by decide, by decide, by decide⟩ (fun r w9 hq => ?_)
      obtain ⟨rfl, rfl⟩ := hq
      show V g X 4 w0 0 0 15 [(0, .int p0), (1, .int p1), (2, .int l2_4), (3, .int (nI k4))] [.int (bI (f_X8_has p0 (nI k4)))]
      refine vv_if_eq hC 28 dX8_bitNumbered_15 (by decide) (fun c1 => ?_) (fun c1 => ?_)
      · have c1 : ¬ (f_X8_has p0 (nI k4) = true) := bI_f c1
        refine vv_iinc (lv2 := [(3, .int (nI (k4 + 1))), (0, .int p0), (1, .int p1), (2, .int l2_4)]) hC 3 dX8_bitNumbered_28 rfl (nI_add k4 1) (by decide) rfl ?_
        refine vv_goto hC 4 dX8_bitNumbered_31 (by decide) ?_
        refine vv_lv [1, 2, 3, 0] rfl ?_
        exact ih (k4 + 1) l2_4 (by omega) (ho.trans (by first | (simp only [f_X8_bitNumbered_L4, if_neg c1]; done) | rfl | (simp only [f_X8_bitNumbered_L4, if_neg c1]; rfl)))
      · have c1 : f_X8_has p0 (nI k4) = true := bI_t c1
        refine vv_iload_n hC 2 dX8_bitNumbered_18 rfl rfl ?_
        refine vv_iinc (lv2 := [(2, .int (l2_4 + 1)), (0, .int p0), (1, .int p1), (3, .int (nI k4))]) hC 2 dX8_bitNumbered_19 rfl rfl (by decide) rfl ?_
        refine vv_iload_n hC 2 dX8_bitNumbered_22 rfl rfl ?_
        refine vv_icmp_ne hC 28 dX8_bitNumbered_23 (by decide) (fun c2 => ?_) (fun c2 => ?_)
        · have c2 : ¬ (l2_4 = p1) := c2
          refine vv_iinc (lv2 := [(3, .int (nI (k4 + 1))), (2, .int (l2_4 + 1)), (0, .int p0), (1, .int p1)]) hC 3 dX8_bitNumbered_28 rfl (nI_add k4 1) (by decide) rfl ?_
          refine vv_goto hC 4 dX8_bitNumbered_31 (by decide) ?_
          refine vv_lv [2, 3, 1, 0] rfl ?_
          exact ih (k4 + 1) (l2_4 + 1) (by omega) (ho.trans (by first | (simp only [f_X8_bitNumbered_L4, if_pos c1, if_neg c2]; done) | rfl | (simp only [f_X8_bitNumbered_L4, if_pos c1, if_neg c2]; rfl)))
        · have c2 : l2_4 = p1 := c2
          refine vv_iload_n hC 3 dX8_bitNumbered_26 rfl rfl ?_
          have hf : (f_X8_bitNumbered p0 p1) = nI k4 := ho.trans (by first | (simp only [f_X8_bitNumbered_L4, if_pos c1, if_pos c2]; done) | rfl | (simp only [f_X8_bitNumbered_L4, if_pos c1, if_pos c2]; rfl))
          refine vv_iret hC hR rfl dX8_bitNumbered_27 (by omega) (by omega) ?_
          rw [hf]
          exact ⟨rfl, rfl⟩
  refine vv_lv [2, 3, 1, 0] rfl ?_
  exact hL3 8 0 0 (by omega) (by first | (simp only [f_X8_bitNumbered]; done) | rfl | (simp only [f_X8_bitNumbered]; rfl))
def f_X8_noMoon (p0 : Int32) : Bool := (if p0 < 0 then true else (if p0 < 3 then false else true))
set_option maxHeartbeats 4000000 in
set_option maxRecDepth 100000 in
theorem c_X8_noMoon (g : GT) (w0 : Wd) (p0 : Int32) : CT g yX8_noMoon cX8_noMoon 1 (some .boolean) 0 0 0 0 w0 [.int p0] (fun r w2 => r = some (.int (bI (f_X8_noMoon p0))) ∧ w0 = w2) := by
  refine CT.of (own := RX8) (by decide +kernel) rfl (Nat.le_of_ble_eq_true rfl) (fun X hC hR hI => ?_)
  show V g X 1 w0 0 0 0 [(0, .int p0)] []
  refine vv_iload_n hC 0 dX8_noMoon_0 rfl rfl ?_
  have hJ2 : V g X 1 w0 0 0 14 [(0, .int p0)] [.int (bI (if p0 < 0 then true else (if p0 < 3 then false else true)))] := by
    have hf : (f_X8_noMoon p0) = (if p0 < 0 then true else (if p0 < 3 then false else true)) := by first | (simp only [f_X8_noMoon]; done) | rfl | (simp only [f_X8_noMoon]; rfl)
    refine vv_zret hC hR rfl (bI_nar _) dX8_noMoon_14 (by omega) (by omega) ?_
    rw [hf]
    exact ⟨rfl, rfl⟩
  refine vv_if_lt hC 9 dX8_noMoon_1 (by decide) (fun c1 => ?_) (fun c1 => ?_)
  · have c1 : p0 < 0 := c1
    refine vv_iconst (v := 1) hC dX8_noMoon_9 (by decide) ?_
    refine vv_goto hC 14 dX8_noMoon_10 (by decide) ?_
    have hz := hJ2
    try simp only [if_pos c1] at hz
    first | exact hz | (simp only [if_pos c1]; exact hz)
  · have c1 : ¬ (p0 < 0) := c1
    refine vv_iload_n hC 0 dX8_noMoon_4 rfl rfl ?_
    refine vv_iconst (v := 3) hC dX8_noMoon_5 (by decide) ?_
    refine vv_icmp_lt hC 13 dX8_noMoon_6 (by decide) (fun c3 => ?_) (fun c3 => ?_)
    · have c3 : p0 < 3 := c3
      refine vv_iconst (v := 0) hC dX8_noMoon_13 (by decide) ?_
      have hz := hJ2
      try simp only [if_neg c1, if_pos c3] at hz
      first | exact hz | (simp only [if_neg c1, if_pos c3]; exact hz)
    · have c3 : ¬ (p0 < 3) := c3
      refine vv_iconst (v := 1) hC dX8_noMoon_9 (by decide) ?_
      refine vv_goto hC 14 dX8_noMoon_10 (by decide) ?_
      have hz := hJ2
      try simp only [if_neg c1, if_neg c3] at hz
      first | exact hz | (simp only [if_neg c1, if_neg c3]; exact hz)
def f_X8_at (row : Nat → Int32) (N : Nat) (p1 : Int32) : Int32 := (if p1 < 0 then (0 : Int32) else (if nI N ≤ p1 then (0 : Int32) else row p1.toNatClampNeg))
set_option maxHeartbeats 4000000 in
set_option maxRecDepth 100000 in
theorem c_X8_at (g : GT) (w0 : Wd) (a_row : Nat) (N : Nat) (row : Nat → Int32) (p1 : Int32) (hN : N < 2147483648) (h_row : w0 a_row = some (.inl (g.2.2.1 0, N, .inl row))) : CT g yX8_at cX8_at 2 (some .int) 0 0 0 0 w0 [.ref a_row, .int p1] (fun r w2 => r = some (.int (f_X8_at row N p1)) ∧ w0 = w2) := by
  refine CT.of (own := RX8) (by decide +kernel) rfl (Nat.le_of_ble_eq_true rfl) (fun X hC hR hI => ?_)
  show V g X 2 w0 0 0 0 [(0, .ref a_row), (1, .int p1)] []
  refine vv_iload_n hC 1 dX8_at_0 rfl rfl ?_
  have hJ2 : V g X 2 w0 0 0 17 [(0, .ref a_row), (1, .int p1)] [.int (if p1 < 0 then (0 : Int32) else (if nI N ≤ p1 then (0 : Int32) else row p1.toNatClampNeg))] := by
    have hf : (f_X8_at row N p1) = (if p1 < 0 then (0 : Int32) else (if nI N ≤ p1 then (0 : Int32) else row p1.toNatClampNeg)) := by first | (simp only [f_X8_at]; done) | rfl | (simp only [f_X8_at]; rfl)
    refine vv_iret hC hR rfl dX8_at_17 (by omega) (by omega) ?_
    rw [hf]
    exact ⟨rfl, rfl⟩
  refine vv_if_lt hC 16 dX8_at_1 (by decide) (fun c1 => ?_) (fun c1 => ?_)
  · have c1 : p1 < 0 := c1
    refine vv_iconst (v := 0) hC dX8_at_16 (by decide) ?_
    have hz := hJ2
    try simp only [if_pos c1] at hz
    first | exact hz | (simp only [if_pos c1]; exact hz)
  · have c1 : ¬ (p1 < 0) := c1
    refine vv_iload_n hC 1 dX8_at_4 rfl rfl ?_
    refine vv_aload_n hC 0 dX8_at_5 rfl rfl ?_
    refine vv_alen_iald (v := nI N) hC dX8_at_6 h_row rfl ?_
    refine vv_icmp_ge hC 16 dX8_at_7 (by decide) (fun c3 => ?_) (fun c3 => ?_)
    · have c3 : nI N ≤ p1 := c3
      refine vv_iconst (v := 0) hC dX8_at_16 (by decide) ?_
      have hz := hJ2
      try simp only [if_neg c1, if_pos c3] at hz
      first | exact hz | (simp only [if_neg c1, if_pos c3]; exact hz)
    · have c3 : ¬ (nI N ≤ p1) := c3
      refine vv_aload_n hC 0 dX8_at_10 rfl rfl ?_
      refine vv_iload_n hC 1 dX8_at_11 rfl rfl ?_
      refine vv_iald hC dX8_at_12 h_row (fw_in c1 c3 (by omega)) ?_
      refine vv_goto hC 17 dX8_at_13 (by decide) ?_
      have hz := hJ2
      try simp only [if_neg c1, if_neg c3] at hz
      first | exact hz | (simp only [if_neg c1, if_neg c3]; exact hz)
def f_X8_put (row : Nat → Int32) (N : Nat) (p1 : Int32) (p2 : Int32) : (Nat → Int32) := (if p1 < 0 then row else (if nI N ≤ p1 then row else upd row p1.toNatClampNeg p2))
set_option maxHeartbeats 4000000 in
set_option maxRecDepth 100000 in
theorem c_X8_put (g : GT) (w0 : Wd) (a_row : Nat) (N : Nat) (row : Nat → Int32) (p1 : Int32) (p2 : Int32) (hN : N < 2147483648) (h_row : w0 a_row = some (.inl (g.2.2.1 0, N, .inl row))) : CT g yX8_put cX8_put 3 none 0 0 0 0 w0 [.ref a_row, .int p1, .int p2] (fun r w2 => r = none ∧ w2 a_row = some (.inl (g.2.2.1 0, N, .inl (f_X8_put row N p1 p2))) ∧ wE (fun q => q = a_row) w0 w2) := by
  refine CT.of (own := RX8) (by decide +kernel) rfl (Nat.le_of_ble_eq_true rfl) (fun X hC hR hI => ?_)
  show V g X 3 w0 0 0 0 [(0, .ref a_row), (1, .int p1), (2, .int p2)] []
  have hE : wE (fun q => q = a_row) w0 w0 := wE.refl
  refine vv_iload_n hC 1 dX8_put_0 rfl rfl ?_
  have hJ2 : ∀ w5 : Wd, w5 a_row = some (.inl (g.2.2.1 0, N, .inl (if p1 < 0 then row else (if nI N ≤ p1 then row else upd row p1.toNatClampNeg p2)))) → wE (fun q => q = a_row) w0 w5 → V g X 3 w5 0 0 14 [(0, .ref a_row), (1, .int p1), (2, .int p2)] [] := by
    intro w5 h_row hE
    have hf : (f_X8_put row N p1 p2) = (if p1 < 0 then row else (if nI N ≤ p1 then row else upd row p1.toNatClampNeg p2)) := by first | (simp only [f_X8_put]; done) | rfl | (simp only [f_X8_put]; rfl)
    refine vv_vret hC hR rfl dX8_put_14 (by omega) (by omega) ?_
    rw [hf]
    exact ⟨rfl, h_row, hE⟩
  refine vv_if_lt hC 14 dX8_put_1 (by decide) (fun c1 => ?_) (fun c1 => ?_)
  · have c1 : p1 < 0 := c1
    have hz := hJ2 w0
    try simp only [if_pos c1] at hz
    first | exact hz h_row hE | (simp only [if_pos c1]; exact hz h_row hE)
  · have c1 : ¬ (p1 < 0) := c1
    refine vv_iload_n hC 1 dX8_put_4 rfl rfl ?_
    refine vv_aload_n hC 0 dX8_put_5 rfl rfl ?_
    refine vv_alen_iald (v := nI N) hC dX8_put_6 h_row rfl ?_
    refine vv_icmp_ge hC 14 dX8_put_7 (by decide) (fun c3 => ?_) (fun c3 => ?_)
    · have c3 : nI N ≤ p1 := c3
      have hz := hJ2 w0
      try simp only [if_neg c1, if_pos c3] at hz
      first | exact hz h_row hE | (simp only [if_neg c1, if_pos c3]; exact hz h_row hE)
    · have c3 : ¬ (nI N ≤ p1) := c3
      refine vv_aload_n hC 0 dX8_put_10 rfl rfl ?_
      refine vv_iload_n hC 1 dX8_put_11 rfl rfl ?_
      refine vv_iload_n hC 2 dX8_put_12 rfl rfl ?_
      refine vv_iast hC dX8_put_13 h_row (fw_in c1 c3 (by omega)) (fun w4 t1 hs => ?_)
      have t1 : w4 a_row = some (.inl (g.2.2.1 0, N, .inl (upd row p1.toNatClampNeg p2))) := t1
      have h_row := t1
      have hE := hE.trans (hs.mono (fun _ z => z))
      have hz := hJ2 w4
      try simp only [if_neg c1, if_neg c3] at hz
      first | exact hz h_row hE | (simp only [if_neg c1, if_neg c3]; exact hz h_row hE)
def f_X8_powerOf_L5 (p0 : Int64) : Nat → Nat → Int64 → Int64
  | 0, k5, l3_5 => l3_5
  | r5 + 1, k5, l3_5 => f_X8_powerOf_L5 p0 r5 (k5 + 1) (l3_5 * p0)
def f_X8_powerOf (p0 : Int64) (m : Nat) : Int64 := (f_X8_powerOf_L5 p0 m 0 1)
set_option maxHeartbeats 4000000 in
set_option maxRecDepth 100000 in
theorem c_X8_powerOf (g : GT) (w0 : Wd) (p0 : Int64) (m : Nat) (hm : m < 2147483648) : CT g yX8_powerOf cX8_powerOf 6 (some .long) 0 0 0 0 w0 [.long p0, .int (nI m)] (fun r w2 => r = some (.long (f_X8_powerOf p0 m)) ∧ w0 = w2) := by
  refine CT.of (own := RX8) (by decide +kernel) rfl (Nat.le_of_ble_eq_true rfl) (fun X hC hR hI => ?_)
  show V g X 6 w0 0 0 0 [(0, .long p0), (2, .int (nI m))] []
  refine vv_lconst (v := 1) hC dX8_powerOf_0 (by decide) ?_
  refine vv_lstore_n (lv2 := [(3, .long 1), (0, .long p0), (2, .int (nI m))]) hC dX8_powerOf_1 rfl (by decide) rfl ?_
  refine vv_iconst (v := 0) hC dX8_powerOf_2 (by decide) ?_
  refine vv_istore (lv2 := [(5, .int 0), (3, .long 1), (0, .long p0), (2, .int (nI m))]) hC dX8_powerOf_3 (by decide) rfl ?_
  have hL1 : ∀ (r5 k5 : Nat) (l3_5 : Int64) (out : Int64), k5 + r5 = m → out = f_X8_powerOf_L5 p0 r5 k5 l3_5 → V g X 6 w0 0 0 21 [(0, .long p0), (2, .int (nI m)), (3, .long out)] [] → V g X 6 w0 0 0 5 [(0, .long p0), (2, .int (nI m)), (3, .long l3_5), (5, .int (nI k5))] [] := by
    intro r5
    induction r5 with
    | zero =>
      intro k5 l3_5 out hb ho hk
      refine vv_iload hC 3 dX8_powerOf_5 rfl ?_
      refine vv_iload_n hC 1 dX8_powerOf_7 rfl rfl ?_
      refine vv_icmp_ge hC 21 dX8_powerOf_8 (by decide) (fun c => ?_) (fun c => False.elim (c ((nI_le_ (a := m) (b := k5) (by omega) (by omega)).mpr (by omega))))
      refine vv_lv [0, 1, 2] rfl ?_
      have ho := ho.trans (by first | (simp only [f_X8_powerOf_L5]; done) | rfl | (simp only [f_X8_powerOf_L5]; rfl) : _ = l3_5)
      subst ho
      exact hk
    | succ r5 ih =>
      intro k5 l3_5 out hb ho hk
      refine vv_iload hC 3 dX8_powerOf_5 rfl ?_
      refine vv_iload_n hC 1 dX8_powerOf_7 rfl rfl ?_
      refine vv_icmp_ge hC 21 dX8_powerOf_8 (by decide) (fun c => absurd ((nI_le_ (a := m) (b := k5) (by omega) (by omega)).mp c) (by first | omega | decide)) (fun c => ?_)
      refine vv_lload_n hC 2 dX8_powerOf_11 rfl rfl ?_
      refine vv_lload_n hC 0 dX8_powerOf_12 rfl rfl ?_
      refine vv_lmul hC dX8_powerOf_13 ?_
      refine vv_lstore_n (lv2 := [(3, .long (l3_5 * p0)), (0, .long p0), (2, .int (nI m)), (5, .int (nI k5))]) hC dX8_powerOf_14 rfl (by decide) rfl ?_
      refine vv_iinc (lv2 := [(5, .int (nI (k5 + 1))), (3, .long (l3_5 * p0)), (0, .long p0), (2, .int (nI m))]) hC 3 dX8_powerOf_15 rfl (nI_add k5 1) (by decide) rfl ?_
      refine vv_goto hC 5 dX8_powerOf_18 (by decide) ?_
      refine vv_lv [2, 3, 1, 0] rfl ?_
      exact ih (k5 + 1) (l3_5 * p0) out (by omega) (ho.trans (by first | (simp only [f_X8_powerOf_L5]; done) | rfl | (simp only [f_X8_powerOf_L5]; rfl))) hk
  refine vv_lv [2, 3, 1, 0] rfl ?_
  refine hL1 m 0 1 (f_X8_powerOf_L5 p0 m 0 1) (by omega) rfl ?_
  refine vv_lload_n hC 2 dX8_powerOf_21 rfl rfl ?_
  have hf : (f_X8_powerOf p0 m) = (f_X8_powerOf_L5 p0 m 0 1) := by first | (simp only [f_X8_powerOf]; done) | rfl | (simp only [f_X8_powerOf]; rfl)
  refine vv_lret hC hR rfl dX8_powerOf_22 (by omega) (by omega) ?_
  rw [hf]
  exact ⟨rfl, rfl⟩
