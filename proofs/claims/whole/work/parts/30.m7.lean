def f_X9_part_L6 : Nat → Int64 → Int64 → Int64 × Int64
  | 0, l5_6, l7_6 => (l5_6, l7_6)
  | r6 + 1, l5_6, l7_6 => (if l7_6 = 0 then (l5_6, l7_6) else f_X9_part_L6 r6 l7_6 (l5_6 - l5_6 / l7_6 * l7_6))
def f_X9_part_L6_E : Nat → Int64 → Int64 → Bool
  | 0, l5_6, l7_6 => (if l7_6 = 0 then true else false)
  | r6 + 1, l5_6, l7_6 => (if l7_6 = 0 then true else f_X9_part_L6_E r6 l7_6 (l5_6 - l5_6 / l7_6 * l7_6))
def f_X9_part (p0 : Int64) (p2 : Int64) (p4 : Bool) : Int64 := (if p4 = true then (p0 / (f_X9_part_L6 fuelG p0 p2).1) else (p2 / (f_X9_part_L6 fuelG p0 p2).1))
set_option maxHeartbeats 4000000 in
set_option maxRecDepth 100000 in
theorem c_X9_part (g : GT) (w0 : Wd) (p0 : Int64) (p2 : Int64) (p4 : Bool) (hend : f_X9_part_L6_E fuelG p0 p2 = true) (hnz : ¬ (f_X9_part_L6 fuelG p0 p2).1 = 0) : CT g yX9_part cX9_part 11 (some .long) 0 0 0 0 w0 [.long p0, .long p2, .int (bI p4)] (fun r w2 => r = some (.long (f_X9_part p0 p2 p4)) ∧ w0 = w2) := by
  refine CT.of (own := RX9) (by decide +kernel) rfl (Nat.le_of_ble_eq_true rfl) (fun X hC hR hI => ?_)
  show V g X 11 w0 0 0 0 [(0, .long p0), (2, .long p2), (4, .int (bI p4))] []
  refine vv_lload_n hC 0 dX9_part_0 rfl rfl ?_
  refine vv_lstore (lv2 := [(5, .long p0), (0, .long p0), (2, .long p2), (4, .int (bI p4))]) hC dX9_part_1 (by decide) rfl ?_
  refine vv_lload_n hC 2 dX9_part_3 rfl rfl ?_
  refine vv_lstore (lv2 := [(7, .long p2), (5, .long p0), (0, .long p0), (2, .long p2), (4, .int (bI p4))]) hC dX9_part_4 (by decide) rfl ?_
  have hL3 : ∀ (r6 : Nat) (l5_6 : Int64) (l7_6 : Int64) (out : Int64 × Int64), f_X9_part_L6_E r6 l5_6 l7_6 = true → out = f_X9_part_L6 r6 l5_6 l7_6 → V g X 11 w0 0 0 31 [(0, .long p0), (2, .long p2), (4, .int (bI p4)), (5, .long out.1), (7, .long out.2)] [] → V g X 11 w0 0 0 6 [(0, .long p0), (2, .long p2), (4, .int (bI p4)), (5, .long l5_6), (7, .long l7_6)] [] := by
    intro r6
    induction r6 with
    | zero =>
      intro l5_6 l7_6 out he ho hk
      refine vv_lload hC 4 dX9_part_6 rfl ?_
      refine vv_lconst (v := 0) hC dX9_part_8 (by decide) ?_
      refine vv_lcmp hC dX9_part_9 ?_
      refine vv_if_eq hC 31 dX9_part_10 (by decide) (fun c1 => ?_) (fun c1 => ?_)
      · have c1 : l7_6 = 0 := lc_eq c1
        have ho := ho.trans (by first | (simp only [f_X9_part_L6, if_pos c1]; done) | rfl | (simp only [f_X9_part_L6, if_pos c1]; rfl) : _ = (l5_6, l7_6))
        subst ho
        exact hk
      · have c1 : ¬ (l7_6 = 0) := lc_ne c1
        refine vv_lload hC 3 dX9_part_13 rfl ?_
        refine vv_lload hC 4 dX9_part_15 rfl ?_
        refine vv_lrem hC dX9_part_17 c1 ?_
        refine vv_lstore (lv2 := [(9, .long (l5_6 - l5_6 / l7_6 * l7_6)), (0, .long p0), (2, .long p2), (4, .int (bI p4)), (5, .long l5_6), (7, .long l7_6)]) hC dX9_part_18 (by decide) rfl ?_
        refine vv_lload hC 5 dX9_part_20 rfl ?_
        refine vv_lstore (lv2 := [(5, .long l7_6), (9, .long (l5_6 - l5_6 / l7_6 * l7_6)), (0, .long p0), (2, .long p2), (4, .int (bI p4)), (7, .long l7_6)]) hC dX9_part_22 (by decide) rfl ?_
        refine vv_lload hC 1 dX9_part_24 rfl ?_
        refine vv_lstore (lv2 := [(7, .long (l5_6 - l5_6 / l7_6 * l7_6)), (5, .long l7_6), (9, .long (l5_6 - l5_6 / l7_6 * l7_6)), (0, .long p0), (2, .long p2), (4, .int (bI p4))]) hC dX9_part_26 (by decide) rfl ?_
        refine vv_goto hC 6 dX9_part_28 (by decide) ?_
        refine vv_lv [3, 4, 5, 1, 0] rfl ?_
        exact absurd (he.symm.trans (by simp only [f_X9_part_L6_E, if_neg c1] : f_X9_part_L6_E 0 l5_6 l7_6 = false)) (by decide)
    | succ r6 ih =>
      intro l5_6 l7_6 out he ho hk
      refine vv_lload hC 4 dX9_part_6 rfl ?_
      refine vv_lconst (v := 0) hC dX9_part_8 (by decide) ?_
      refine vv_lcmp hC dX9_part_9 ?_
      refine vv_if_eq hC 31 dX9_part_10 (by decide) (fun c2 => ?_) (fun c2 => ?_)
      · have c2 : l7_6 = 0 := lc_eq c2
        have ho := ho.trans (by first | (simp only [f_X9_part_L6, if_pos c2]; done) | rfl | (simp only [f_X9_part_L6, if_pos c2]; rfl) : _ = (l5_6, l7_6))
        subst ho
        exact hk
      · have c2 : ¬ (l7_6 = 0) := lc_ne c2
        refine vv_lload hC 3 dX9_part_13 rfl ?_
        refine vv_lload hC 4 dX9_part_15 rfl ?_
        refine vv_lrem hC dX9_part_17 c2 ?_
        refine vv_lstore (lv2 := [(9, .long (l5_6 - l5_6 / l7_6 * l7_6)), (0, .long p0), (2, .long p2), (4, .int (bI p4)), (5, .long l5_6), (7, .long l7_6)]) hC dX9_part_18 (by decide) rfl ?_
        refine vv_lload hC 5 dX9_part_20 rfl ?_
        refine vv_lstore (lv2 := [(5, .long l7_6), (9, .long (l5_6 - l5_6 / l7_6 * l7_6)), (0, .long p0), (2, .long p2), (4, .int (bI p4)), (7, .long l7_6)]) hC dX9_part_22 (by decide) rfl ?_
        refine vv_lload hC 1 dX9_part_24 rfl ?_
        refine vv_lstore (lv2 := [(7, .long (l5_6 - l5_6 / l7_6 * l7_6)), (5, .long l7_6), (9, .long (l5_6 - l5_6 / l7_6 * l7_6)), (0, .long p0), (2, .long p2), (4, .int (bI p4))]) hC dX9_part_26 (by decide) rfl ?_
        refine vv_goto hC 6 dX9_part_28 (by decide) ?_
        refine vv_lv [3, 4, 5, 1, 0] rfl ?_
        exact ih l7_6 (l5_6 - l5_6 / l7_6 * l7_6) out (Eq.trans (Eq.symm (by first | (simp only [f_X9_part_L6_E, if_neg c2]; done) | rfl : f_X9_part_L6_E (r6 + 1) l5_6 l7_6 = f_X9_part_L6_E r6 l7_6 (l5_6 - l5_6 / l7_6 * l7_6))) he) (ho.trans (by first | (simp only [f_X9_part_L6, if_neg c2]; done) | rfl | (simp only [f_X9_part_L6, if_neg c2]; rfl))) hk
  refine vv_lv [2, 3, 4, 1, 0] rfl ?_
  refine hL3 fuelG p0 p2 (f_X9_part_L6 fuelG p0 p2) (hend) rfl ?_
  refine vv_iload hC 2 dX9_part_31 rfl ?_
  have hJ5 : V g X 11 w0 0 0 47 [(0, .long p0), (2, .long p2), (4, .int (bI p4)), (5, .long ((f_X9_part_L6 fuelG p0 p2).1)), (7, .long ((f_X9_part_L6 fuelG p0 p2).2))] [.long (if p4 = true then (p0 / (f_X9_part_L6 fuelG p0 p2).1) else (p2 / (f_X9_part_L6 fuelG p0 p2).1))] := by
    have hf : (f_X9_part p0 p2 p4) = (if p4 = true then (p0 / (f_X9_part_L6 fuelG p0 p2).1) else (p2 / (f_X9_part_L6 fuelG p0 p2).1)) := by first | (simp only [f_X9_part]; done) | rfl | (simp only [f_X9_part]; rfl)
    refine vv_lret hC hR rfl dX9_part_47 (by omega) (by omega) ?_
    rw [hf]
    exact ⟨rfl, rfl⟩
  refine vv_if_eq hC 43 dX9_part_33 (by decide) (fun c4 => ?_) (fun c4 => ?_)
  · have c4 : ¬ (p4 = true) := bI_f c4
    refine vv_lload_n hC 1 dX9_part_43 rfl rfl ?_
    refine vv_lload hC 3 dX9_part_44 rfl ?_
    refine vv_ldiv hC dX9_part_46 hnz ?_
    have hz := hJ5
    try simp only [if_neg c4] at hz
    first | exact hz | (simp only [if_neg c4]; exact hz)
  · have c4 : p4 = true := bI_t c4
    refine vv_lload_n hC 0 dX9_part_36 rfl rfl ?_
    refine vv_lload hC 3 dX9_part_37 rfl ?_
    refine vv_ldiv hC dX9_part_39 hnz ?_
    refine vv_goto hC 47 dX9_part_40 (by decide) ?_
    have hz := hJ5
    try simp only [if_pos c4] at hz
    first | exact hz | (simp only [if_pos c4]; exact hz)
def f_X9_placeOf_L4 (p0 : Int32) : Nat → Int32 → Int32 → Int32 × Int32
  | 0, l2_4, l3_4 => (l2_4, l3_4)
  | r4 + 1, l2_4, l3_4 => (if f_X9_has p0 l3_4 = true then (if l2_4 ≤ 0 then (l2_4, l3_4) else f_X9_placeOf_L4 p0 r4 (l2_4 - ((p0 >>> (l3_4 &&& 31)) &&& 1)) (l3_4 + 1)) else f_X9_placeOf_L4 p0 r4 (l2_4 - ((p0 >>> (l3_4 &&& 31)) &&& 1)) (l3_4 + 1))
def f_X9_placeOf_L4_E (p0 : Int32) : Nat → Int32 → Int32 → Bool
  | 0, l2_4, l3_4 => (if f_X9_has p0 l3_4 = true then (if l2_4 ≤ 0 then true else false) else false)
  | r4 + 1, l2_4, l3_4 => (if f_X9_has p0 l3_4 = true then (if l2_4 ≤ 0 then true else f_X9_placeOf_L4_E p0 r4 (l2_4 - ((p0 >>> (l3_4 &&& 31)) &&& 1)) (l3_4 + 1)) else f_X9_placeOf_L4_E p0 r4 (l2_4 - ((p0 >>> (l3_4 &&& 31)) &&& 1)) (l3_4 + 1))
def f_X9_placeOf (p0 : Int32) (p1 : Int32) : Int32 := (f_X9_placeOf_L4 p0 fuelP p1 0).2
set_option maxHeartbeats 4000000 in
set_option maxRecDepth 100000 in
theorem c_X9_placeOf (g : GT) (w0 : Wd) (p0 : Int32) (p1 : Int32) (hend : f_X9_placeOf_L4_E p0 fuelP p1 0 = true) : CT g yX9_placeOf cX9_placeOf 4 (some .int) 1 21 0 0 w0 [.int p0, .int p1] (fun r w2 => r = some (.int (f_X9_placeOf p0 p1)) ∧ w0 = w2) := by
  refine CT.of (own := RX9) (by decide +kernel) rfl (Nat.le_of_ble_eq_true rfl) (fun X hC hR hI => ?_)
  show V g X 4 w0 0 0 0 [(0, .int p0), (1, .int p1)] []
  refine vv_iload_n hC 1 dX9_placeOf_0 rfl rfl ?_
  refine vv_istore_n (lv2 := [(2, .int p1), (0, .int p0), (1, .int p1)]) hC dX9_placeOf_1 rfl (by decide) rfl ?_
  refine vv_iconst (v := 0) hC dX9_placeOf_2 (by decide) ?_
  refine vv_istore_n (lv2 := [(3, .int 0), (2, .int p1), (0, .int p0), (1, .int p1)]) hC dX9_placeOf_3 rfl (by decide) rfl ?_
  have hL5 : ∀ (r4 : Nat) (l2_4 : Int32) (l3_4 : Int32) (out : Int32 × Int32), f_X9_placeOf_L4_E p0 r4 l2_4 l3_4 = true → out = f_X9_placeOf_L4 p0 r4 l2_4 l3_4 → V g X 4 w0 0 0 30 [(0, .int p0), (1, .int p1), (2, .int out.1), (3, .int out.2)] [] → V g X 4 w0 0 0 4 [(0, .int p0), (1, .int p1), (2, .int l2_4), (3, .int l3_4)] [] := by
    intro r4
    induction r4 with
    | zero =>
      intro l2_4 l3_4 out he ho hk
      refine vv_iload_n hC 0 dX9_placeOf_4 rfl rfl ?_
      refine vv_iload_n hC 3 dX9_placeOf_5 rfl rfl ?_
      refine vv_callS hC dX9_placeOf_6 md_X9_has lk_m_X9_127 lk_t_X9_has (As := [.int p0, .int l3_4]) (rest := []) (c_X9_has g w0 p0 l3_4) rfl rfl (Nat.le_of_ble_eq_true rfl) ⟨by decide, by decide, by decide, by decide⟩ (fun r w9 hq => ?_)
      obtain ⟨rfl, rfl⟩ := hq
      show V g X 4 w0 0 0 9 [(0, .int p0), (1, .int p1), (2, .int l2_4), (3, .int l3_4)] [.int (bI (f_X9_has p0 l3_4))]
      refine vv_if_eq hC 16 dX9_placeOf_9 (by decide) (fun c1 => ?_) (fun c1 => ?_)
      · have c1 : ¬ (f_X9_has p0 l3_4 = true) := bI_f c1
        refine vv_iload_n hC 2 dX9_placeOf_16 rfl rfl ?_
        refine vv_iload_n hC 0 dX9_placeOf_17 rfl rfl ?_
        refine vv_iload_n hC 3 dX9_placeOf_18 rfl rfl ?_
        refine vv_ishr hC dX9_placeOf_19 ?_
        refine vv_iconst (v := 1) hC dX9_placeOf_20 (by decide) ?_
        refine vv_iand hC dX9_placeOf_21 ?_
        refine vv_isub hC dX9_placeOf_22 ?_
        refine vv_istore_n (lv2 := [(2, .int (l2_4 - ((p0 >>> (l3_4 &&& 31)) &&& 1))), (0, .int p0), (1, .int p1), (3, .int l3_4)]) hC dX9_placeOf_23 rfl (by decide) rfl ?_
        refine vv_iinc (lv2 := [(3, .int (l3_4 + 1)), (2, .int (l2_4 - ((p0 >>> (l3_4 &&& 31)) &&& 1))), (0, .int p0), (1, .int p1)]) hC 3 dX9_placeOf_24 rfl rfl (by decide) rfl ?_
        refine vv_goto hC 4 dX9_placeOf_27 (by decide) ?_
        refine vv_lv [2, 3, 1, 0] rfl ?_
        exact absurd (he.symm.trans (by simp only [f_X9_placeOf_L4_E, if_neg c1] : f_X9_placeOf_L4_E p0 0 l2_4 l3_4 = false)) (by decide)
      · have c1 : f_X9_has p0 l3_4 = true := bI_t c1
        refine vv_iload_n hC 2 dX9_placeOf_12 rfl rfl ?_
        refine vv_if_le hC 30 dX9_placeOf_13 (by decide) (fun c2 => ?_) (fun c2 => ?_)
        · have c2 : l2_4 ≤ 0 := c2
          have ho := ho.trans (by first | (simp only [f_X9_placeOf_L4, if_pos c1, if_pos c2]; done) | rfl | (simp only [f_X9_placeOf_L4, if_pos c1, if_pos c2]; rfl) : _ = (l2_4, l3_4))
          subst ho
          exact hk
        · have c2 : ¬ (l2_4 ≤ 0) := c2
          refine vv_iload_n hC 2 dX9_placeOf_16 rfl rfl ?_
          refine vv_iload_n hC 0 dX9_placeOf_17 rfl rfl ?_
          refine vv_iload_n hC 3 dX9_placeOf_18 rfl rfl ?_
          refine vv_ishr hC dX9_placeOf_19 ?_
          refine vv_iconst (v := 1) hC dX9_placeOf_20 (by decide) ?_
          refine vv_iand hC dX9_placeOf_21 ?_
          refine vv_isub hC dX9_placeOf_22 ?_
          refine vv_istore_n (lv2 := [(2, .int (l2_4 - ((p0 >>> (l3_4 &&& 31)) &&& 1))), (0, .int p0), (1, .int p1), (3, .int l3_4)]) hC dX9_placeOf_23 rfl (by decide) rfl ?_
          refine vv_iinc (lv2 := [(3, .int (l3_4 + 1)), (2, .int (l2_4 - ((p0 >>> (l3_4 &&& 31)) &&& 1))), (0, .int p0), (1, .int p1)]) hC 3 dX9_placeOf_24 rfl rfl (by decide) rfl ?_
          refine vv_goto hC 4 dX9_placeOf_27 (by decide) ?_
          refine vv_lv [2, 3, 1, 0] rfl ?_
          exact absurd (he.symm.trans (by simp only [f_X9_placeOf_L4_E, if_pos c1, if_neg c2] : f_X9_placeOf_L4_E p0 0 l2_4 l3_4 = false)) (by decide)
    | succ r4 ih =>
      intro l2_4 l3_4 out he ho hk
      refine vv_iload_n hC 0 dX9_placeOf_4 rfl rfl ?_
      refine vv_iload_n hC 3 dX9_placeOf_5 rfl rfl ?_
      refine vv_callS hC dX9_placeOf_6 md_X9_has lk_m_X9_127 lk_t_X9_has (As := [.int p0, .int l3_4]) (rest := []) (c_X9_has g w0 p0 l3_4) rfl rfl (Nat.le_of_ble_eq_true rfl) ⟨by decide, by decide, by decide, by decide⟩ (fun r w9 hq => ?_)
      obtain ⟨rfl, rfl⟩ := hq
      show V g X 4 w0 0 0 9 [(0, .int p0), (1, .int p1), (2, .int l2_4), (3, .int l3_4)] [.int (bI (f_X9_has p0 l3_4))]
      refine vv_if_eq hC 16 dX9_placeOf_9 (by decide) (fun c3 => ?_) (fun c3 => ?_)
      · have c3 : ¬ (f_X9_has p0 l3_4 = true) := bI_f c3
        refine vv_iload_n hC 2 dX9_placeOf_16 rfl rfl ?_
        refine vv_iload_n hC 0 dX9_placeOf_17 rfl rfl ?_
        refine vv_iload_n hC 3 dX9_placeOf_18 rfl rfl ?_
        refine vv_ishr hC dX9_placeOf_19 ?_
        refine vv_iconst (v := 1) hC dX9_placeOf_20 (by decide) ?_
        refine vv_iand hC dX9_placeOf_21 ?_
        refine vv_isub hC dX9_placeOf_22 ?_
        refine vv_istore_n (lv2 := [(2, .int (l2_4 - ((p0 >>> (l3_4 &&& 31)) &&& 1))), (0, .int p0), (1, .int p1), (3, .int l3_4)]) hC dX9_placeOf_23 rfl (by decide) rfl ?_
        refine vv_iinc (lv2 := [(3, .int (l3_4 + 1)), (2, .int (l2_4 - ((p0 >>> (l3_4 &&& 31)) &&& 1))), (0, .int p0), (1, .int p1)]) hC 3 dX9_placeOf_24 rfl rfl (by decide) rfl ?_
        refine vv_goto hC 4 dX9_placeOf_27 (by decide) ?_
        refine vv_lv [2, 3, 1, 0] rfl ?_
        exact ih (l2_4 - ((p0 >>> (l3_4 &&& 31)) &&& 1)) (l3_4 + 1) out (Eq.trans (Eq.symm (by first | (simp only [f_X9_placeOf_L4_E, if_neg c3]; done) | rfl : f_X9_placeOf_L4_E p0 (r4 + 1) l2_4 l3_4 = f_X9_placeOf_L4_E p0 r4 (l2_4 - ((p0 >>> (l3_4 &&& 31)) &&& 1)) (l3_4 + 1))) he) (ho.trans (by first | (simp only [f_X9_placeOf_L4, if_neg c3]; done) | rfl | (simp only [f_X9_placeOf_L4, if_neg c3]; rfl))) hk
      · have c3 : f_X9_has p0 l3_4 = true := bI_t c3
        refine vv_iload_n hC 2 dX9_placeOf_12 rfl rfl ?_
        refine vv_if_le hC 30 dX9_placeOf_13 (by decide) (fun c4 => ?_) (fun c4 => ?_)
        · have c4 : l2_4 ≤ 0 := c4
          have ho := ho.trans (by first | (simp only [f_X9_placeOf_L4, if_pos c3, if_pos c4]; done) | rfl | (simp only [f_X9_placeOf_L4, if_pos c3, if_pos c4]; rfl) : _ = (l2_4, l3_4))
          subst ho
          exact hk
        · have c4 : ¬ (l2_4 ≤ 0) := c4
          refine vv_iload_n hC 2 dX9_placeOf_16 rfl rfl ?_
          refine vv_iload_n hC 0 dX9_placeOf_17 rfl rfl ?_
          refine vv_iload_n hC 3 dX9_placeOf_18 rfl rfl ?_
          refine vv_ishr hC dX9_placeOf_19 ?_
          refine vv_iconst (v := 1) hC dX9_placeOf_20 (by decide) ?_
          refine vv_iand hC dX9_placeOf_21 ?_
          refine vv_isub hC dX9_placeOf_22 ?_
          refine vv_istore_n (lv2 := [(2, .int (l2_4 - ((p0 >>> (l3_4 &&& 31)) &&& 1))), (0, .int p0), (1, .int p1), (3, .int l3_4)]) hC dX9_placeOf_23 rfl (by decide) rfl ?_
          refine vv_iinc (lv2 := [(3, .int (l3_4 + 1)), (2, .int (l2_4 - ((p0 >>> (l3_4 &&& 31)) &&& 1))), (0, .int p0), (1, .int p1)]) hC 3 dX9_placeOf_24 rfl rfl (by decide) rfl ?_
          refine vv_goto hC 4 dX9_placeOf_27 (by decide) ?_
          refine vv_lv [2, 3, 1, 0] rfl ?_
          exact ih (l2_4 - ((p0 >>> (l3_4 &&& 31)) &&& 1)) (l3_4 + 1) out (Eq.trans (Eq.symm (by first | (simp only [f_X9_placeOf_L4_E, if_pos c3, if_neg c4]; done) | rfl : f_X9_placeOf_L4_E p0 (r4 + 1) l2_4 l3_4 = f_X9_placeOf_L4_E p0 r4 (l2_4 - ((p0 >>> (l3_4 &&& 31)) &&& 1)) (l3_4 + 1))) he) (ho.trans (by first | (simp only [f_X9_placeOf_L4, if_pos c3, if_neg c4]; done) | rfl | (simp only [f_X9_placeOf_L4, if_pos c3, if_neg c4]; rfl))) hk
  refine vv_lv [2, 3, 1, 0] rfl ?_
  refine hL5 fuelP p1 0 (f_X9_placeOf_L4 p0 fuelP p1 0) (hend) rfl ?_
  refine vv_iload_n hC 3 dX9_placeOf_30 rfl rfl ?_
  have hf : (f_X9_placeOf p0 p1) = (f_X9_placeOf_L4 p0 fuelP p1 0).2 := by first | (simp only [f_X9_placeOf]; done) | rfl | (simp only [f_X9_placeOf]; rfl)
  refine vv_iret hC hR rfl dX9_placeOf_31 (by omega) (by omega) ?_
  rw [hf]
  exact ⟨rfl, rfl⟩
