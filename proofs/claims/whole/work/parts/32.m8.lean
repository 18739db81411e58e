def f_X9_lineOf_L4 (now : Nat → Int32) : Nat → Int32 → Nat → Int32 × Nat
  | 0, l2_4, l3_4 => (l2_4, l3_4)
  | r4 + 1, l2_4, l3_4 => (if f_X9_of now l3_4 4 = (-9) then (l2_4, l3_4) else f_X9_lineOf_L4 now r4 (l2_4 + 1) (tn (f_X9_of now l3_4 4)))
def f_X9_lineOf_L4_E (now : Nat → Int32) : Nat → Int32 → Nat → Bool
  | 0, l2_4, l3_4 => (if f_X9_of now l3_4 4 = (-9) then true else false)
  | r4 + 1, l2_4, l3_4 => (if f_X9_of now l3_4 4 = (-9) then true else f_X9_lineOf_L4_E now r4 (l2_4 + 1) (tn (f_X9_of now l3_4 4)))
def f_X9_lineOf (now : Nat → Int32) (p1 : Nat) : Int32 := (f_X9_lineOf_L4 now fuelC 0 p1).1
set_option maxHeartbeats 4000000 in
set_option maxRecDepth 100000 in
theorem c_X9_lineOf (g : GT) (w0 : Wd) (B : Nat → Nat) (hB : ∀ i j, i < 60 → j < 60 → B i = B j → i = j) (x_thrown : Int32) (x_houses : Nat) (x_people : Nat) (x_paths : Nat) (x_acts : Nat) (x_size : Nat) (x_at : Nat) (x_readHouses : Nat) (x_readPeople : Nat) (x_readPaths : Nat) (x_sights : Nat) (x_drawn : Int64) (now : Nat → Int32) (p1 : Nat) (hp : p1 < 6) (hbt : ∀ q, q < 6 → now (13 + 5 * q + 4) = -9 ∨ ∃ j, j < 6 ∧ now (13 + 5 * q + 4) = nI j) (hend : f_X9_lineOf_L4_E now fuelC 0 p1 = true) (h_m : w0 (B 0) = some (.inr (9, cM B (x_thrown, x_houses, x_people, x_paths, x_acts, x_size, x_at, x_readHouses, x_readPeople, x_readPaths, x_sights, x_drawn)))) (h_now : w0 (B 7) = some (.inl (g.2.2.1 0, 43, .inl now))) : CT g yX9_lineOf cX9_lineOf 4 (some .int) 1 22 0 0 w0 [.ref (B 0), .int (nI p1)] (fun r w2 => r = some (.int (f_X9_lineOf now p1)) ∧ w0 = w2) := by
  refine CT.of (own := RX9) (by decide +kernel) rfl (Nat.le_of_ble_eq_true rfl) (fun X hC hR hI => ?_)
  show V g X 4 w0 0 0 0 [(0, .ref (B 0)), (1, .int (nI p1))] []
  refine vv_iconst (v := 0) hC dX9_lineOf_0 (by decide) ?_
  refine vv_istore_n (lv2 := [(2, .int 0), (0, .ref (B 0)), (1, .int (nI p1))]) hC dX9_lineOf_1 rfl (by decide) rfl ?_
  refine vv_iload_n hC 2 dX9_lineOf_2 rfl rfl ?_
  refine vv_istore_n (lv2 := [(3, .int (nI p1)), (2, .int 0), (0, .ref (B 0)), (1, .int (nI p1))]) hC dX9_lineOf_3 rfl (by decide) rfl ?_
  have hL5 : ∀ (r4 : Nat) (l2_4 : Int32) (l3_4 : Nat) (out : Int32 × Nat), l3_4 < 6 → f_X9_lineOf_L4_E now r4 l2_4 l3_4 = true → out = f_X9_lineOf_L4 now r4 l2_4 l3_4 → V g X 4 w0 0 0 28 [(0, .ref (B 0)), (1, .int (nI p1)), (2, .int out.1), (3, .int (nI out.2))] [] → V g X 4 w0 0 0 4 [(0, .ref (B 0)), (1, .int (nI p1)), (2, .int l2_4), (3, .int (nI l3_4))] [] := by
    intro r4
    induction r4 with
    | zero =>
      intro l2_4 l3_4 out hq he ho hk
      refine vv_aload_n hC 0 dX9_lineOf_4 rfl rfl ?_
      refine vv_iload_n hC 3 dX9_lineOf_5 rfl rfl ?_
      refine vv_iconst (v := 4) hC dX9_lineOf_6 (by decide) ?_
      refine vv_callV hC dX9_lineOf_7 md_X9_of lk_m_X9_83 lk_i_X9_of lk_s_X9_of h_m rfl (As := [.int (nI l3_4), .int 4]) (rest := []) (c_X9_of g w0 B hB x_thrown x_houses x_people x_paths x_acts x_size x_at x_readHouses x_readPeople x_readPaths x_sights x_drawn now l3_4 4 (by omega) (by omega) h_m h_now) rfl rfl (Nat.le_of_ble_eq_true rfl) ⟨by decide, by decide, by decide, by decide⟩ (fun r w9 hq => ?_)
      obtain ⟨rfl, rfl⟩ := hq
      show V g X 4 w0 0 0 10 [(0, .ref (B 0)), (1, .int (nI p1)), (2, .int l2_4), (3, .int (nI l3_4))] [.int (f_X9_of now l3_4 4)]
      refine vv_bipush (v := (-9)) hC dX9_lineOf_10 (by decide) ?_
      refine vv_icmp_eq hC 28 dX9_lineOf_12 (by decide) (fun c1 => ?_) (fun c1 => ?_)
      · have c1 : f_X9_of now l3_4 4 = (-9) := c1
        have ho := ho.trans (by first | (simp only [f_X9_lineOf_L4, if_pos c1]; done) | rfl | (simp only [f_X9_lineOf_L4, if_pos c1]; rfl) : _ = (l2_4, l3_4))
        subst ho
        exact hk
      · have c1 : ¬ (f_X9_of now l3_4 4 = (-9)) := c1
        refine vv_iinc (lv2 := [(2, .int (l2_4 + 1)), (0, .ref (B 0)), (1, .int (nI p1)), (3, .int (nI l3_4))]) hC 2 dX9_lineOf_15 rfl rfl (by decide) rfl ?_
        refine vv_aload_n hC 1 dX9_lineOf_18 rfl rfl ?_
        refine vv_iload_n hC 3 dX9_lineOf_19 rfl rfl ?_
        refine vv_iconst (v := 4) hC dX9_lineOf_20 (by decide) ?_
        refine vv_callV hC dX9_lineOf_21 md_X9_of lk_m_X9_83 lk_i_X9_of lk_s_X9_of h_m rfl (As := [.int (nI l3_4), .int 4]) (rest := []) (c_X9_of g w0 B hB x_thrown x_houses x_people x_paths x_acts x_size x_at x_readHouses x_readPeople x_readPaths x_sights x_drawn now l3_4 4 (by omega) (by omega) h_m h_now) rfl rfl (Nat.le_of_ble_eq_true rfl) ⟨by decide, by decide, by decide, by decide⟩ (fun r w9 hq => ?_)
        obtain ⟨rfl, rfl⟩ := hq
        show V g X 4 w0 0 0 24 [(2, .int (l2_4 + 1)), (0, .ref (B 0)), (1, .int (nI p1)), (3, .int (nI l3_4))] [.int (f_X9_of now l3_4 4)]
        have b2 := biter_b hbt (by omega) c1
        refine vv_topi (nI (tn (f_X9_of now l3_4 4))) (biter_e hbt (by omega) c1) ?_
        refine vv_istore_n (lv2 := [(3, .int (nI (tn (f_X9_of now l3_4 4)))), (2, .int (l2_4 + 1)), (0, .ref (B 0)), (1, .int (nI p1))]) hC dX9_lineOf_24 rfl (by decide) rfl ?_
        refine vv_goto hC 4 dX9_lineOf_25 (by decide) ?_
        refine vv_lv [2, 3, 1, 0] rfl ?_
        exact absurd (he.symm.trans (by simp only [f_X9_lineOf_L4_E, if_neg c1] : f_X9_lineOf_L4_E now 0 l2_4 l3_4 = false)) (by decide)
    | succ r4 ih =>
      intro l2_4 l3_4 out hq he ho hk
      refine vv_aload_n hC 0 dX9_lineOf_4 rfl rfl ?_
      refine vv_iload_n hC 3 dX9_lineOf_5 rfl rfl ?_
      refine vv_iconst (v := 4) hC dX9_lineOf_6 (by decide) ?_
      refine vv_callV hC dX9_lineOf_7 md_X9_of lk_m_X9_83 lk_i_X9_of lk_s_X9_of h_m rfl (As := [.int (nI l3_4), .int 4]) (rest := []) (c_X9_of g w0 B hB x_thrown x_houses x_people x_paths x_acts x_size x_at x_readHouses x_readPeople x_readPaths x_sights x_drawn now l3_4 4 (by omega) (by omega) h_m h_now) rfl rfl (Nat.le_of_ble_eq_true rfl) ⟨by decide, by decide, by decide, by decide⟩ (fun r w9 hq => ?_)
      obtain ⟨rfl, rfl⟩ := hq
      show V g X 4 w0 0 0 10 [(0, .ref (B 0)), (1, .int (nI p1)), (2, .int l2_4), (3, .int (nI l3_4))] [.int (f_X9_of now l3_4 4)]
      refine vv_bipush (v := (-9)) hC dX9_lineOf_10 (by decide) ?_
      refine vv_icmp_eq hC 28 dX9_lineOf_12 (by decide) (fun c3 => ?_) (fun c3 => ?_)
      · have c3 : f_X9_of now l3_4 4 = (-9) := c3
        have ho := ho.trans (by first | (simp only [f_X9_lineOf_L4, if_pos c3]; done) | rfl | (simp only [f_X9_lineOf_L4, if_pos c3]; rfl) : _ = (l2_4, l3_4))
        subst ho
        exact hk
      · have c3 : ¬ (f_X9_of now l3_4 4 = (-9)) := c3
        refine vv_iinc (lv2 := [(2, .int (l2_4 + 1)), (0, .ref (B 0)), (1, .int (nI p1)), (3, .int (nI l3_4))]) hC 2 dX9_lineOf_15 rfl rfl (by decide) rfl ?_
        refine vv_aload_n hC 1 dX9_lineOf_18 rfl rfl ?_
        refine vv_iload_n hC 3 dX9_lineOf_19 rfl rfl ?_
        refine vv_iconst (v := 4) hC dX9_lineOf_20 (by decide) ?_
        refine vv_callV hC dX9_lineOf_21 md_X9_of lk_m_X9_83 lk_i_X9_of lk_s_X9_of h_m rfl (As := [.int (nI l3_4), .int 4]) (rest := []) (c_X9_of g w0 B hB x_thrown x_houses x_people x_paths x_acts x_size x_at x_readHouses x_readPeople x_readPaths x_sights x_drawn now l3_4 4 (by omega) (by omega) h_m h_now) rfl rfl (Nat.le_of_ble_eq_true rfl) ⟨by decide, by decide, by decide, by decide⟩ (fun r w9 hq => ?_)
        obtain ⟨rfl, rfl⟩ := hq
        show V g X 4 w0 0 0 24 [(2, .int (l2_4 + 1)), (0, .ref (B 0)), (1, .int (nI p1)), (3, .int (nI l3_4))] [.int (f_X9_of now l3_4 4)]
        have b4 := biter_b hbt (by omega) c3
        refine vv_topi (nI (tn (f_X9_of now l3_4 4))) (biter_e hbt (by omega) c3) ?_
        refine vv_istore_n (lv2 := [(3, .int (nI (tn (f_X9_of now l3_4 4)))), (2, .int (l2_4 + 1)), (0, .ref (B 0)), (1, .int (nI p1))]) hC dX9_lineOf_24 rfl (by decide) rfl ?_
        refine vv_goto hC 4 dX9_lineOf_25 (by decide) ?_
        refine vv_lv [2, 3, 1, 0] rfl ?_
        exact ih (l2_4 + 1) (tn (f_X9_of now l3_4 4)) out (by omega) (Eq.trans (Eq.symm (by first | (simp only [f_X9_lineOf_L4_E, if_neg c3]; done) | rfl : f_X9_lineOf_L4_E now (r4 + 1) l2_4 l3_4 = f_X9_lineOf_L4_E now r4 (l2_4 + 1) (tn (f_X9_of now l3_4 4)))) he) (ho.trans (by first | (simp only [f_X9_lineOf_L4, if_neg c3]; done) | rfl | (simp only [f_X9_lineOf_L4, if_neg c3]; rfl))) hk
  refine vv_lv [2, 3, 1, 0] rfl ?_
  refine hL5 fuelC 0 p1 (f_X9_lineOf_L4 now fuelC 0 p1) (by omega) (hend) rfl ?_
  refine vv_iload_n hC 2 dX9_lineOf_28 rfl rfl ?_
  have hf : (f_X9_lineOf now p1) = (f_X9_lineOf_L4 now fuelC 0 p1).1 := by first | (simp only [f_X9_lineOf]; done) | rfl | (simp only [f_X9_lineOf]; rfl)
  refine vv_iret hC hR rfl dX9_lineOf_29 (by omega) (by omega) ?_
  rw [hf]
  exact ⟨rfl, rfl⟩
def f_X9_firstOf_L2 (now : Nat → Int32) : Nat → Nat → Nat
  | 0, l2_2 => l2_2
  | r2 + 1, l2_2 => (if f_X9_of now l2_2 4 = (-9) then l2_2 else f_X9_firstOf_L2 now r2 (tn (f_X9_of now l2_2 4)))
def f_X9_firstOf_L2_E (now : Nat → Int32) : Nat → Nat → Bool
  | 0, l2_2 => (if f_X9_of now l2_2 4 = (-9) then true else false)
  | r2 + 1, l2_2 => (if f_X9_of now l2_2 4 = (-9) then true else f_X9_firstOf_L2_E now r2 (tn (f_X9_of now l2_2 4)))
def f_X9_firstOf (now : Nat → Int32) (p1 : Nat) : Int32 := nI (f_X9_firstOf_L2 now fuelC p1)
set_option maxHeartbeats 4000000 in
set_option maxRecDepth 100000 in
theorem c_X9_firstOf (g : GT) (w0 : Wd) (B : Nat → Nat) (hB : ∀ i j, i < 60 → j < 60 → B i = B j → i = j) (x_thrown : Int32) (x_houses : Nat) (x_people : Nat) (x_paths : Nat) (x_acts : Nat) (x_size : Nat) (x_at : Nat) (x_readHouses : Nat) (x_readPeople : Nat) (x_readPaths : Nat) (x_sights : Nat) (x_drawn : Int64) (now : Nat → Int32) (p1 : Nat) (hp : p1 < 6) (hbt : ∀ q, q < 6 → now (13 + 5 * q + 4) = -9 ∨ ∃ j, j < 6 ∧ now (13 + 5 * q + 4) = nI j) (hend : f_X9_firstOf_L2_E now fuelC p1 = true) (h_m : w0 (B 0) = some (.inr (9, cM B (x_thrown, x_houses, x_people, x_paths, x_acts, x_size, x_at, x_readHouses, x_readPeople, x_readPaths, x_sights, x_drawn)))) (h_now : w0 (B 7) = some (.inl (g.2.2.1 0, 43, .inl now))) : CT g yX9_firstOf cX9_firstOf 3 (some .int) 1 22 0 0 w0 [.ref (B 0), .int (nI p1)] (fun r w2 => r = some (.int (f_X9_firstOf now p1)) ∧ w0 = w2) := by
  refine CT.of (own := RX9) (by decide +kernel) rfl (Nat.le_of_ble_eq_true rfl) (fun X hC hR hI => ?_)
  show V g X 3 w0 0 0 0 [(0, .ref (B 0)), (1, .int (nI p1))] []
  refine vv_iload_n hC 1 dX9_firstOf_0 rfl rfl ?_
  refine vv_istore_n (lv2 := [(2, .int (nI p1)), (0, .ref (B 0)), (1, .int (nI p1))]) hC dX9_firstOf_1 rfl (by decide) rfl ?_
  have hL5 : ∀ (r2 : Nat) (l2_2 : Nat) (out : Nat), l2_2 < 6 → f_X9_firstOf_L2_E now r2 l2_2 = true → out = f_X9_firstOf_L2 now r2 l2_2 → V g X 3 w0 0 0 23 [(0, .ref (B 0)), (1, .int (nI p1)), (2, .int (nI out))] [] → V g X 3 w0 0 0 2 [(0, .ref (B 0)), (1, .int (nI p1)), (2, .int (nI l2_2))] [] := by
    intro r2
    induction r2 with
    | zero =>
      intro l2_2 out hq he ho hk
      refine vv_aload_n hC 0 dX9_firstOf_2 rfl rfl ?_
      refine vv_iload_n hC 2 dX9_firstOf_3 rfl rfl ?_
      refine vv_iconst (v := 4) hC dX9_firstOf_4 (by decide) ?_
      refine vv_callV hC dX9_firstOf_5 md_X9_of lk_m_X9_83 lk_i_X9_of lk_s_X9_of h_m rfl (As := [.int (nI l2_2), .int 4]) (rest := []) (c_X9_of g w0 B hB x_thrown x_houses x_people x_paths x_acts x_size x_at x_readHouses x_readPeople x_readPaths x_sights x_drawn now l2_2 4 (by omega) (by omega) h_m h_now) rfl rfl (Nat.le_of_ble_eq_true rfl) ⟨by decide, by decide, by decide, by decide⟩ (fun r w9 hq => ?_)
      obtain ⟨rfl, rfl⟩ := hq
      show V g X 3 w0 0 0 8 [(0, .ref (B 0)), (1, .int (nI p1)), (2, .int (nI l2_2))] [.int (f_X9_of now l2_2 4)]
      refine vv_bipush (v := (-9)) hC dX9_firstOf_8 (by decide) ?_
      refine vv_icmp_eq hC 23 dX9_firstOf_10 (by decide) (fun c1 => ?_) (fun c1 => ?_)
      · have c1 : f_X9_of now l2_2 4 = (-9) := c1
        have ho := ho.trans (by first | (simp only [f_X9_firstOf_L2, if_pos c1]; done) | rfl | (simp only [f_X9_firstOf_L2, if_pos c1]; rfl) : _ = l2_2)
        subst ho
        exact hk
      · have c1 : ¬ (f_X9_of now l2_2 4 = (-9)) := c1
        refine vv_aload_n hC 0 dX9_firstOf_13 rfl rfl ?_
        refine vv_iload_n hC 2 dX9_firstOf_14 rfl rfl ?_
        refine vv_iconst (v := 4) hC dX9_firstOf_15 (by decide) ?_
        refine vv_callV hC dX9_firstOf_16 md_X9_of lk_m_X9_83 lk_i_X9_of lk_s_X9_of h_m rfl (As := [.int (nI l2_2), .int 4]) (rest := []) (c_X9_of g w0 B hB x_thrown x_houses x_people x_paths x_acts x_size x_at x_readHouses x_readPeople x_readPaths x_sights x_drawn now l2_2 4 (by omega) (by omega) h_m h_now) rfl rfl (Nat.le_of_ble_eq_true rfl) ⟨by decide, by decide, by decide, by decide⟩ (fun r w9 hq => ?_)
        obtain ⟨rfl, rfl⟩ := hq
        show V g X 3 w0 0 0 19 [(0, .ref (B 0)), (1, .int (nI p1)), (2, .int (nI l2_2))] [.int (f_X9_of now l2_2 4)]
        have b2 := biter_b hbt (by omega) c1
        refine vv_topi (nI (tn (f_X9_of now l2_2 4))) (biter_e hbt (by omega) c1) ?_
        refine vv_istore_n (lv2 := [(2, .int (nI (tn (f_X9_of now l2_2 4)))), (0, .ref (B 0)), (1, .int (nI p1))]) hC dX9_firstOf_19 rfl (by decide) rfl ?_
        refine vv_goto hC 2 dX9_firstOf_20 (by decide) ?_
        refine vv_lv [1, 2, 0] rfl ?_
        exact absurd (he.symm.trans (by simp only [f_X9_firstOf_L2_E, if_neg c1] : f_X9_firstOf_L2_E now 0 l2_2 = false)) (by decide)
    | succ r2 ih =>
      intro l2_2 out hq he ho hk
      refine vv_aload_n hC 0 dX9_firstOf_2 rfl rfl ?_
      refine vv_iload_n hC 2 dX9_firstOf_3 rfl rfl ?_
      refine vv_iconst (v := 4) hC dX9_firstOf_4 (by decide) ?_
      refine vv_callV hC dX9_firstOf_5 md_X9_of lk_m_X9_83 lk_i_X9_of lk_s_X9_of h_m rfl (As := [.int (nI l2_2), .int 4]) (rest := []) (c_X9_of g w0 B hB x_thrown x_houses x_people x_paths x_acts x_size x_at x_readHouses x_readPeople x_readPaths x_sights x_drawn now l2_2 4 (by omega) (by omega) h_m h_now) rfl rfl (Nat.le_of_ble_eq_true rfl) ⟨by decide, by decide, by decide, by decide⟩ (fun r w9 hq => ?_)
      obtain ⟨rfl, rfl⟩ := hq
      show V g X 3 w0 0 0 8 [(0, .ref (B 0)), (1, .int (nI p1)), (2, .int (nI l2_2))] [.int (f_X9_of now l2_2 4)]
      refine vv_bipush (v := (-9)) hC dX9_firstOf_8 (by decide) ?_
      refine vv_icmp_eq hC 23 dX9_firstOf_10 (by decide) (fun c3 => ?_) (fun c3 => ?_)
      · have c3 : f_X9_of now l2_2 4 = (-9) := c3
        have ho := ho.trans (by first | (simp only [f_X9_firstOf_L2, if_pos c3]; done) | rfl | (simp only [f_X9_firstOf_L2, if_pos c3]; rfl) : _ = l2_2)
        subst ho
        exact hk
      · have c3 : ¬ (f_X9_of now l2_2 4 = (-9)) := c3
        refine vv_aload_n hC 0 dX9_firstOf_13 rfl rfl ?_
        refine vv_iload_n hC 2 dX9_firstOf_14 rfl rfl ?_
        refine vv_iconst (v := 4) hC dX9_firstOf_15 (by decide) ?_
        refine vv_callV hC dX9_firstOf_16 md_X9_of lk_m_X9_83 lk_i_X9_of lk_s_X9_of h_m rfl (As := [.int (nI l2_2), .int 4]) (rest := []) (c_X9_of g w0 B hB x_thrown x_houses x_people x_paths x_acts x_size x_at x_readHouses x_readPeople x_readPaths x_sights x_drawn now l2_2 4 (by omega) (by omega) h_m h_now) rfl rfl (Nat.le_of_ble_eq_true rfl) ⟨by decide, by decide, by decide, by decide⟩ (fun r w9 hq => ?_)
        obtain ⟨rfl, rfl⟩ := hq
        show V g X 3 w0 0 0 19 [(0, .ref (B 0)), (1, .int (nI p1)), (2, .int (nI l2_2))] [.int (f_X9_of now l2_2 4)]
        have b4 := biter_b hbt (by omega) c3
        refine vv_topi (nI (tn (f_X9_of now l2_2 4))) (biter_e hbt (by omega) c3) ?_
        refine vv_istore_n (lv2 := [(2, .int (nI (tn (f_X9_of now l2_2 4)))), (0, .ref (B 0)), (1, .int (nI p1))]) hC dX9_firstOf_19 rfl (by decide) rfl ?_
        refine vv_goto hC 2 dX9_firstOf_20 (by decide) ?_
        refine vv_lv [1, 2, 0] rfl ?_
        exact ih (tn (f_X9_of now l2_2 4)) out (by omega) (Eq.trans (Eq.symm (by first | (simp only [f_X9_firstOf_L2_E, if_neg c3]; done) | rfl : f_X9_firstOf_L2_E now (r2 + 1) l2_2 = f_X9_firstOf_L2_E now r2 (tn (f_X9_of now l2_2 4)))) he) (ho.trans (by first | (simp only [f_X9_firstOf_L2, if_neg c3]; done) | rfl | (simp only [f_X9_firstOf_L2, if_neg c3]; rfl))) hk
  refine vv_lv [1, 2, 0] rfl ?_
  refine hL5 fuelC p1 (f_X9_firstOf_L2 now fuelC p1) (by omega) (hend) rfl ?_
  refine vv_iload_n hC 2 dX9_firstOf_23 rfl rfl ?_
  have hf : (f_X9_firstOf now p1) = nI (f_X9_firstOf_L2 now fuelC p1) := by first | (simp only [f_X9_firstOf]; done) | rfl | (simp only [f_X9_firstOf]; rfl)
  refine vv_iret hC hR rfl dX9_firstOf_24 (by omega) (by omega) ?_
  rw [hf]
  exact ⟨rfl, rfl⟩
def f_X9_first (x_people : Nat) (now : Nat → Int32) (p1 : Int32) : Int32 × Int32 := ((if f_X9_noOne x_people p1 = true then (-1 : Int32) else f_X9_firstOf now (tn p1)), 0)
set_option maxHeartbeats 4000000 in
set_option maxRecDepth 100000 in
theorem c_X9_first (g : GT) (w0 : Wd) (B : Nat → Nat) (hB : ∀ i j, i < 60 → j < 60 → B i = B j → i = j) (x_thrown : Int32) (x_houses : Nat) (x_people : Nat) (x_paths : Nat) (x_acts : Nat) (x_size : Nat) (x_at : Nat) (x_readHouses : Nat) (x_readPeople : Nat) (x_readPaths : Nat) (x_sights : Nat) (x_drawn : Int64) (now : Nat → Int32) (p1 : Int32) (hxp : x_people ≤ 6) (hbt : ∀ q, q < 6 → now (13 + 5 * q + 4) = -9 ∨ ∃ j, j < 6 ∧ now (13 + 5 * q + 4) = nI j) (hends : ∀ q, q < x_people → f_X9_firstOf_L2_E now fuelC q = true) (h_m : w0 (B 0) = some (.inr (9, cM B (x_thrown, x_houses, x_people, x_paths, x_acts, x_size, x_at, x_readHouses, x_readPeople, x_readPaths, x_sights, x_drawn)))) (h_now : w0 (B 7) = some (.inl (g.2.2.1 0, 43, .inl now))) : CT g yX9_first cX9_first 2 (some .int) 2 46 0 0 w0 [.ref (B 0), .int p1] (fun r w2 => r = some (.int ((f_X9_first x_people now p1).1)) ∧ w2 (B 0) = some (.inr (9, cM B ((f_X9_first x_people now p1).2, x_houses, x_people, x_paths, x_acts, x_size, x_at, x_readHouses, x_readPeople, x_readPaths, x_sights, x_drawn))) ∧ wE (fun q => q = (B 0)) w0 w2) := by
  refine CT.of (own := RX9) (by decide +kernel) rfl (Nat.le_of_ble_eq_true rfl) (fun X hC hR hI => ?_)
  show V g X 2 w0 0 0 0 [(0, .ref (B 0)), (1, .int p1)] []
  have hE : wE (fun q => q = (B 0)) w0 w0 := wE.refl
  refine vv_aload_n hC 0 dX9_first_0 rfl rfl ?_
  refine vv_iconst (v := 0) hC dX9_first_1 (by decide) ?_
  refine vv_put hC fp_X9_69 dX9_first_2 h_m rfl rfl (Nat.le_of_ble_eq_true rfl) (fun w1 t1 hs => ?_)
  have t1 : w1 (B 0) = some (.inr (9, cM B (0, x_houses, x_people, x_paths, x_acts, x_size, x_at, x_readHouses, x_readPeople, x_readPaths, x_sights, x_drawn))) := t1.trans (congrArg (fun z => some (Sum.inr (9, z))) (eM_thrown _ _ _ _ _ _ _ _ _ _ _ _ _ _))
  have h_now := hs _ _ (fw_ao h_now h_m) h_now
  have h_m := t1
  have hE := hE.trans (hs.mono (fun _ z => z))
  refine vv_aload_n hC 0 dX9_first_5 rfl rfl ?_
  refine vv_iload_n hC 1 dX9_first_6 rfl rfl ?_
  refine vv_callV hC dX9_first_7 md_X9_noOne lk_m_X9_168 lk_i_X9_noOne lk_s_X9_noOne h_m rfl (As := [.int p1]) (rest := []) (c_X9_noOne g w1 B hB 0 x_houses x_people x_paths x_acts x_size x_at x_readHouses x_readPeople x_readPaths x_sights x_drawn p1 h_m) rfl rfl (Nat.le_of_ble_eq_true rfl) ⟨by decide, by decide, by decide, by decide⟩ (fun r w9 hq => ?_)
  obtain ⟨rfl, rfl⟩ := hq
  show V g X 2 w1 0 0 10 [(0, .ref (B 0)), (1, .int p1)] [.int (bI (f_X9_noOne x_people p1))]
  have hJ3 : V g X 2 w1 0 0 22 [(0, .ref (B 0)), (1, .int p1)] [.int (if f_X9_noOne x_people p1 = true then (-1 : Int32) else f_X9_firstOf now (tn p1))] := by
    have hf : (f_X9_first x_people now p1) = ((if f_X9_noOne x_people p1 = true then (-1 : Int32) else f_X9_firstOf now (tn p1)), 0) := by first | (simp only [f_X9_first]; done) | rfl | (simp only [f_X9_first]; rfl)
    refine vv_iret hC hR rfl dX9_first_22 (by omega) (by omega) ?_
    rw [hf]
    try dsimp only
    exact ⟨rfl, h_m, hE⟩
  refine vv_if_eq hC 17 dX9_first_10 (by decide) (fun c2 => ?_) (fun c2 => ?_)
  · have c2 : ¬ (f_X9_noOne x_people p1 = true) := bI_f c2
    have bc2 := noOne_b (by omega) c2
    refine vv_aload_n hC 0 dX9_first_17 rfl rfl ?_
    refine vv_iload_n hC 1 dX9_first_18 rfl rfl ?_
    refine vv_topi (nI (tn p1)) (noOne_e (by omega) c2) ?_
    refine vv_callV hC dX9_first_19 md_X9_firstOf lk_m_X9_197 lk_i_X9_firstOf lk_s_X9_firstOf h_m rfl (As := [.int (nI (tn p1))]) (rest := []) (c_X9_firstOf g w1 B hB 0 x_houses x_people x_paths x_acts x_size x_at x_readHouses x_readPeople x_readPaths x_sights x_drawn now (tn p1) (by omega) (hbt) (hends _ (by omega)) h_m h_now) rfl rfl (Nat.le_of_ble_eq_true rfl) ⟨by decide, by decide, by decide, by decide⟩ (fun r w9 hq => ?_)
    obtain ⟨rfl, rfl⟩ := hq
    show V g X 2 w1 0 0 22 [(0, .ref (B 0)), (1, .int p1)] [.int (f_X9_firstOf now (tn p1))]
    have hz := hJ3
    try simp only [if_neg c2] at hz
    first | exact hz | (simp only [if_neg c2]; exact hz)
  · have c2 : f_X9_noOne x_people p1 = true := bI_t c2
    refine vv_iconst (v := (-1)) hC dX9_first_13 (by decide) ?_
    refine vv_goto hC 22 dX9_first_14 (by decide) ?_
    have hz := hJ3
    try simp only [if_pos c2] at hz
    first | exact hz | (simp only [if_pos c2]; exact hz)
def f_X9_line (x_people : Nat) (now : Nat → Int32) (p1 : Int32) : Int32 × Int32 := ((if f_X9_noOne x_people p1 = true then (-1 : Int32) else f_X9_lineOf now (tn p1)), 0)
set_option maxHeartbeats 4000000 in
set_option maxRecDepth 100000 in
theorem c_X9_line (g : GT) (w0 : Wd) (B : Nat → Nat) (hB : ∀ i j, i < 60 → j < 60 → B i = B j → i = j) (x_thrown : Int32) (x_houses : Nat) (x_people : Nat) (x_paths : Nat) (x_acts : Nat) (x_size : Nat) (x_at : Nat) (x_readHouses : Nat) (x_readPeople : Nat) (x_readPaths : Nat) (x_sights : Nat) (x_drawn : Int64) (now : Nat → Int32) (p1 : Int32) (hxp : x_people ≤ 6) (hbt : ∀ q, q < 6 → now (13 + 5 * q + 4) = -9 ∨ ∃ j, j < 6 ∧ now (13 + 5 * q + 4) = nI j) (hends : ∀ q, q < x_people → f_X9_lineOf_L4_E now fuelC 0 q = true) (h_m : w0 (B 0) = some (.inr (9, cM B (x_thrown, x_houses, x_people, x_paths, x_acts, x_size, x_at, x_readHouses, x_readPeople, x_readPaths, x_sights, x_drawn)))) (h_now : w0 (B 7) = some (.inl (g.2.2.1 0, 43, .inl now))) : CT g yX9_line cX9_line 2 (some .int) 2 46 0 0 w0 [.ref (B 0), .int p1] (fun r w2 => r = some (.int ((f_X9_line x_people now p1).1)) ∧ w2 (B 0) = some (.inr (9, cM B ((f_X9_line x_people now p1).2, x_houses, x_people, x_paths, x_acts, x_size, x_at, x_readHouses, x_readPeople, x_readPaths, x_sights, x_drawn))) ∧ wE (fun q => q = (B 0)) w0 w2) := by
  refine CT.of (own := RX9) (by decide +kernel) rfl (Nat.le_of_ble_eq_true rfl) (fun X hC hR hI => ?_)
  show V g X 2 w0 0 0 0 [(0, .ref (B 0)), (1, .int p1)] []
  have hE : wE (fun q => q = (B 0)) w0 w0 := wE.refl
  refine vv_aload_n hC 0 dX9_line_0 rfl rfl ?_
  refine vv_iconst (v := 0) hC dX9_line_1 (by decide) ?_
  refine vv_put hC fp_X9_69 dX9_line_2 h_m rfl rfl (Nat.le_of_ble_eq_true rfl) (fun w1 t1 hs => ?_)
  have t1 : w1 (B 0) = some (.inr (9, cM B (0, x_houses, x_people, x_paths, x_acts, x_size, x_at, x_readHouses, x_readPeople, x_readPaths, x_sights, x_drawn))) := t1.trans (congrArg (fun z => some (Sum.inr (9, z))) (eM_thrown _ _ _ _ _ _ _ _ _ _ _ _ _ _))
  have h_now := hs _ _ (fw_ao h_now h_m) h_now
  have h_m := t1
  have hE := hE.trans (hs.mono (fun _ z => z))
  refine vv_aload_n hC 0 dX9_line_5 rfl rfl ?_
  refine vv_iload_n hC 1 dX9_line_6 rfl rfl ?_
  refine vv_callV hC dX9_line_7 md_X9_noOne lk_m_X9_168 lk_i_X9_noOne lk_s_X9_noOne h_m rfl (As := [.int p1]) (rest := []) (c_X9_noOne g w1 B hB 0 x_houses x_people x_paths x_acts x_size x_at x_readHouses x_readPeople x_readPaths x_sights x_drawn p1 h_m) rfl rfl (Nat.le_of_ble_eq_true rfl) ⟨by decide, by decide, by decide, by decide⟩ (fun r w9 hq => ?_)
  obtain ⟨rfl, rfl⟩ := hq
  show V g X 2 w1 0 0 10 [(0, .ref (B 0)), (1, .int p1)] [.int (bI (f_X9_noOne x_people p1))]
  have hJ3 : V g X 2 w1 0 0 22 [(0, .ref (B 0)), (1, .int p1)] [.int (if f_X9_noOne x_people p1 = true then (-1 : Int32) else f_X9_lineOf now (tn p1))] := by
    have hf : (f_X9_line x_people now p1) = ((if f_X9_noOne x_people p1 = true then (-1 : Int32) else f_X9_lineOf now (tn p1)), 0) := by first | (simp only [f_X9_line]; done) | rfl | (simp only [f_X9_line]; rfl)
    refine vv_iret hC hR rfl dX9_line_22 (by omega) (by omega) ?_
    rw [hf]
    try dsimp only
    exact ⟨rfl, h_m, hE⟩
  refine vv_if_eq hC 17 dX9_line_10 (by decide) (fun c2 => ?_) (fun c2 => ?_)
  · have c2 : ¬ (f_X9_noOne x_people p1 = true) := bI_f c2
    have bc2 := noOne_b (by omega) c2
    refine vv_aload_n hC 0 dX9_line_17 rfl rfl ?_
    refine vv_iload_n hC 1 dX9_line_18 rfl rfl ?_
    refine vv_topi (nI (tn p1)) (noOne_e (by omega) c2) ?_
    refine vv_callV hC dX9_line_19 md_X9_lineOf lk_m_X9_200 lk_i_X9_lineOf lk_s_X9_lineOf h_m rfl (As := [.int (nI (tn p1))]) (rest := []) (c_X9_lineOf g w1 B hB 0 x_houses x_people x_paths x_acts x_size x_at x_readHouses x_readPeople x_readPaths x_sights x_drawn now (tn p1) (by omega) (hbt) (hends _ (by omega)) h_m h_now) rfl rfl (Nat.le_of_ble_eq_true rfl) ⟨by decide, by decide, by decide, by decide⟩ (fun r w9 hq => ?_)
    obtain ⟨rfl, rfl⟩ := hq
    show V g X 2 w1 0 0 22 [(0, .ref (B 0)), (1, .int p1)] [.int (f_X9_lineOf now (tn p1))]
    have hz := hJ3
    try simp only [if_neg c2] at hz
    first | exact hz | (simp only [if_neg c2]; exact hz)
  · have c2 : f_X9_noOne x_people p1 = true := bI_t c2
    refine vv_iconst (v := (-1)) hC dX9_line_13 (by decide) ?_
    refine vv_goto hC 22 dX9_line_14 (by decide) ?_
    have hz := hJ3
    try simp only [if_pos c2] at hz
    first | exact hz | (simp only [if_pos c2]; exact hz)
def f_X9_brood_L19 (now : Nat → Int32) (p1 : Int32) : Nat → Nat → Int32 → Int32
  | 0, k19, l2_19 => l2_19
  | r19 + 1, k19, l2_19 => f_X9_brood_L19 now p1 r19 (k19 + 1) (l2_19 ||| (if f_X9_firstOf now k19 = nI (tn p1) then ((1 : Int32) <<< (nI k19 &&& 31)) else (0 : Int32)))
def f_X9_brood (x_people : Nat) (now : Nat → Int32) (p1 : Int32) : Int32 × Int32 := (if f_X9_noOne x_people p1 = true then ((-1), 0) else ((f_X9_brood_L19 now p1 x_people 0 0), 0))
set_option maxHeartbeats 4000000 in
set_option maxRecDepth 100000 in
theorem c_X9_brood (g : GT) (w0 : Wd) (B : Nat → Nat) (hB : ∀ i j, i < 60 → j < 60 → B i = B j → i = j) (x_thrown : Int32) (x_houses : Nat) (x_people : Nat) (x_paths : Nat) (x_acts : Nat) (x_size : Nat) (x_at : Nat) (x_readHouses : Nat) (x_readPeople : Nat) (x_readPaths : Nat) (x_sights : Nat) (x_drawn : Int64) (now : Nat → Int32) (p1 : Int32) (hxp : x_people ≤ 6) (hbt : ∀ q, q < 6 → now (13 + 5 * q + 4) = -9 ∨ ∃ j, j < 6 ∧ now (13 + 5 * q + 4) = nI j) (hends : ∀ q, q < x_people → f_X9_firstOf_L2_E now fuelC q = true) (h_m : w0 (B 0) = some (.inr (9, cM B (x_thrown, x_houses, x_people, x_paths, x_acts, x_size, x_at, x_readHouses, x_readPeople, x_readPaths, x_sights, x_drawn)))) (h_now : w0 (B 7) = some (.inl (g.2.2.1 0, 43, .inl now))) : CT g yX9_brood cX9_brood 4 (some .int) 2 46 0 0 w0 [.ref (B 0), .int p1] (fun r w2 => r = some (.int ((f_X9_brood x_people now p1).1)) ∧ w2 (B 0) = some (.inr (9, cM B ((f_X9_brood x_people now p1).2, x_houses, x_people, x_paths, x_acts, x_size, x_at, x_readHouses, x_readPeople, x_readPaths, x_sights, x_drawn))) ∧ wE (fun q => q = (B 0)) w0 w2) := by
  refine CT.of (own := RX9) (by decide +kernel) rfl (Nat.le_of_ble_eq_true rfl) (fun X hC hR hI => ?_)
  show V g X 4 w0 0 0 0 [(0, .ref (B 0)), (1, .int p1)] []
  have hE : wE (fun q => q = (B 0)) w0 w0 := wE.refl
  refine vv_aload_n hC 0 dX9_brood_0 rfl rfl ?_
  refine vv_iconst (v := 0) hC dX9_brood_1 (by decide) ?_
  refine vv_put hC fp_X9_69 dX9_brood_2 h_m rfl rfl (Nat.le_of_ble_eq_true rfl) (fun w1 t1 hs => ?_)
  have t1 : w1 (B 0) = some (.inr (9, cM B (0, x_houses, x_people, x_paths, x_acts, x_size, x_at, x_readHouses, x_readPeople, x_readPaths, x_sights, x_drawn))) := t1.trans (congrArg (fun z => some (Sum.inr (9, z))) (eM_thrown _ _ _ _ _ _ _ _ _ _ _ _ _ _))
  have h_now := hs _ _ (fw_ao h_now h_m) h_now
  have h_m := t1
  have hE := hE.trans (hs.mono (fun _ z => z))
  refine vv_aload_n hC 0 dX9_brood_5 rfl rfl ?_
  refine vv_iload_n hC 1 dX9_brood_6 rfl rfl ?_
  refine vv_callV hC dX9_brood_7 md_X9_noOne lk_m_X9_168 lk_i_X9_noOne lk_s_X9_noOne h_m rfl (As := [.int p1]) (rest := []) (c_X9_noOne g w1 B hB 0 x_houses x_people x_paths x_acts x_size x_at x_readHouses x_readPeople x_readPaths x_sights x_drawn p1 h_m) rfl rfl (Nat.le_of_ble_eq_true rfl) ⟨by decide, by decide, by decide, by decide⟩ (fun r w9 hq => ?_)
  obtain ⟨rfl, rfl⟩ := hq
  show V g X 4 w1 0 0 10 [(0, .ref (B 0)), (1, .int p1)] [.int (bI (f_X9_noOne x_people p1))]
  refine vv_if_eq hC 15 dX9_brood_10 (by decide) (fun c2 => ?_) (fun c2 => ?_)
  · have c2 : ¬ (f_X9_noOne x_people p1 = true) := bI_f c2
    have bc2 := noOne_b (by omega) c2
    refine vv_iconst (v := 0) hC dX9_brood_15 (by decide) ?_
    refine vv_istore_n (lv2 := [(2, .int 0), (0, .ref (B 0)), (1, .int p1)]) hC dX9_brood_16 rfl (by decide) rfl ?_
    refine vv_iconst (v := 0) hC dX9_brood_17 (by decide) ?_
    refine vv_istore_n (lv2 := [(3, .int 0), (2, .int 0), (0, .ref (B 0)), (1, .int p1)]) hC dX9_brood_18 rfl (by decide) rfl ?_
    have hL5 : ∀ (r19 k19 : Nat) (l2_19 : Int32) (out : Int32), k19 + r19 = x_people → out = f_X9_brood_L19 now p1 r19 k19 l2_19 → V g X 4 w1 0 0 52 [(0, .ref (B 0)), (1, .int p1), (2, .int out)] [] → V g X 4 w1 0 0 19 [(0, .ref (B 0)), (1, .int p1), (2, .int l2_19), (3, .int (nI k19))] [] := by
      intro r19
      induction r19 with
      | zero =>
        intro k19 l2_19 out hb ho hk
        refine vv_iload_n hC 3 dX9_brood_19 rfl rfl ?_
        refine vv_aload_n hC 0 dX9_brood_20 rfl rfl ?_
        refine vv_get (v := .int (nI x_people)) hC fl_X9_80 dX9_brood_21 h_m rfl ?_
        refine vv_icmp_ge hC 52 dX9_brood_24 (by decide) (fun c => ?_) (fun c => False.elim (c ((nI_le_ (a := x_people) (b := k19) (by omega) (by omega)).mpr (by omega))))
        refine vv_lv [0, 1, 2] rfl ?_
        have ho := ho.trans (by first | (simp only [f_X9_brood_L19]; done) | rfl | (simp only [f_X9_brood_L19]; rfl) : _ = l2_19)
        subst ho
        exact hk
      | succ r19 ih =>
        intro k19 l2_19 out hb ho hk
        refine vv_iload_n hC 3 dX9_brood_19 rfl rfl ?_
        refine vv_aload_n hC 0 dX9_brood_20 rfl rfl ?_
        refine vv_get (v := .int (nI x_people)) hC fl_X9_80 dX9_brood_21 h_m rfl ?_
        refine vv_icmp_ge hC 52 dX9_brood_24 (by decide) (fun c => absurd ((nI_le_ (a := x_people) (b := k19) (by omega) (by omega)).mp c) (by first | omega | decide)) (fun c => ?_)
        refine vv_iload_n hC 2 dX9_brood_27 rfl rfl ?_
        refine vv_aload_n hC 0 dX9_brood_28 rfl rfl ?_
        refine vv_iload_n hC 3 dX9_brood_29 rfl rfl ?_
        refine vv_callV hC dX9_brood_30 md_X9_firstOf lk_m_X9_197 lk_i_X9_firstOf lk_s_X9_firstOf h_m rfl (As := [.int (nI k19)]) (rest := [.int l2_19]) (c_X9_firstOf g w1 B hB 0 x_houses x_people x_paths x_acts x_size x_at x_readHouses x_readPeople x_readPaths x_sights x_drawn now k19 (by omega) (hbt) (hends _ (by omega)) h_m h_now) rfl rfl (Nat.le_of_ble_eq_true rfl) ⟨by decide, by decide, by decide, by decide⟩ (fun r w9 hq => ?_)
        obtain ⟨rfl, rfl⟩ := hq
        show V g X 4 w1 0 0 33 [(0, .ref (B 0)), (1, .int p1), (2, .int l2_19), (3, .int (nI k19))] [.int (f_X9_firstOf now k19), .int l2_19]
        refine vv_iload_n hC 1 dX9_brood_33 rfl rfl ?_
        refine vv_topi (nI (tn p1)) (noOne_e (by omega) c2) ?_
        have hJ4 : V g X 4 w1 0 0 44 [(0, .ref (B 0)), (1, .int p1), (2, .int l2_19), (3, .int (nI k19))] [.int (if f_X9_firstOf now k19 = nI (tn p1) then ((1 : Int32) <<< (nI k19 &&& 31)) else (0 : Int32)), .int l2_19] := by
          refine vv_ior hC dX9_brood_44 ?_
          refine vv_istore_n (lv2 := [(2, .int (l2_19 ||| (if f_X9_firstOf now k19 = nI (tn p1) then ((1 : Int32) <<< (nI k19 &&& 31)) else (0 : Int32)))), (0, .ref (B 0)), (1, .int p1), (3, .int (nI k19))]) hC dX9_brood_45 rfl (by decide) rfl ?_
          refine vv_iinc (lv2 := [(3, .int (nI (k19 + 1))), (2, .int (l2_19 ||| (if f_X9_firstOf now k19 = nI (tn p1) then ((1 : Int32) <<< (nI k19 &&& 31)) else (0 : Int32)))), (0, .ref (B 0)), (1, .int p1)]) hC 3 dX9_brood_46 rfl (nI_add k19 1) (by decide) rfl ?_
          refine vv_goto hC 19 dX9_brood_49 (by decide) ?_
          refine vv_lv [2, 3, 1, 0] rfl ?_
          exact ih (k19 + 1) (l2_19 ||| (if f_X9_firstOf now k19 = nI (tn p1) then ((1 : Int32) <<< (nI k19 &&& 31)) else (0 : Int32))) out (by omega) (ho.trans (by first | (simp only [f_X9_brood_L19]; done) | rfl | (simp only [f_X9_brood_L19]; rfl))) hk
        refine vv_icmp_ne hC 43 dX9_brood_34 (by decide) (fun c3 => ?_) (fun c3 => ?_)
        · have c3 : ¬ (f_X9_firstOf now k19 = nI (tn p1)) := c3
          refine vv_iconst (v := 0) hC dX9_brood_43 (by decide) ?_
          have hz := hJ4
          try simp only [if_neg c3] at hz
          first | exact hz | (simp only [if_neg c3]; exact hz)
        · have c3 : f_X9_firstOf now k19 = nI (tn p1) := c3
          refine vv_iconst (v := 1) hC dX9_brood_37 (by decide) ?_
          refine vv_iload_n hC 3 dX9_brood_38 rfl rfl ?_
          refine vv_ishl hC dX9_brood_39 ?_
          refine vv_goto hC 44 dX9_brood_40 (by decide) ?_
          have hz := hJ4
          try simp only [if_pos c3] at hz
          first | exact hz | (simp only [if_pos c3]; exact hz)
    refine vv_lv [2, 3, 1, 0] rfl ?_
    refine hL5 x_people 0 0 (f_X9_brood_L19 now p1 x_people 0 0) (by omega) rfl ?_
    refine vv_iload_n hC 2 dX9_brood_52 rfl rfl ?_
    have hf : (f_X9_brood x_people now p1) = ((f_X9_brood_L19 now p1 x_people 0 0), 0) := by first | (simp only [f_X9_brood, if_neg c2]; done) | rfl | (simp only [f_X9_brood, if_neg c2]; rfl)
    refine vv_iret hC hR rfl dX9_brood_53 (by omega) (by omega) ?_
    rw [hf]
    try dsimp only
    exact ⟨rfl, h_m, hE⟩
  · have c2 : f_X9_noOne x_people p1 = true := bI_t c2
    refine vv_iconst (v := (-1)) hC dX9_brood_13 (by decide) ?_
    have hf : (f_X9_brood x_people now p1) = ((-1), 0) := by first | (simp only [f_X9_brood, if_pos c2]; done) | rfl | (simp only [f_X9_brood, if_pos c2]; rfl)
    refine vv_iret hC hR rfl dX9_brood_14 (by omega) (by omega) ?_
    rw [hf]
    try dsimp only
    exact ⟨rfl, h_m, hE⟩
