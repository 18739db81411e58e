def f_X3_figure (rd_place : Int32) (text_length : Nat) (bytes : Nat → Int32) (p1 : Int32) : Int32 × Int32 := (if (f_X6_byteAt text_length bytes rd_place - 48) < 0 then ((-9), rd_place) else (if 9 < (f_X6_byteAt text_length bytes rd_place - 48) then ((-9), rd_place) else (if f_X8_has p1 (f_X6_byteAt text_length bytes rd_place - 48) = true then ((f_X6_byteAt text_length bytes rd_place - 48), (rd_place + 1)) else ((-9), rd_place))))
set_option maxHeartbeats 4000000 in
set_option maxRecDepth 100000 in
theorem c_X3_figure (g : GT) (w0 : Wd) (a_rd : Nat) (a_text : Nat) (a_village : Nat) (a_bytes : Nat) (rd_place : Int32) (rd_endA : Int32) (rd_endB : Int32) (text_length : Nat) (bytes : Nat → Int32) (p1 : Int32) (h_rd : w0 a_rd = some (.inr (3, cRd a_text a_village (rd_place, rd_endA, rd_endB)))) (h_text : w0 a_text = some (.inr (6, cTx a_bytes text_length))) (h_bytes : w0 a_bytes = some (.inl (g.2.2.1 2, 96, .inl bytes))) : CT g yX3_figure cX3_figure 3 (some .int) 1 21 0 0 w0 [.ref a_rd, .int p1] (fun r w2 => r = some (.int ((f_X3_figure rd_place text_length bytes p1).1)) ∧ w2 a_rd = some (.inr (3, cRd a_text a_village ((f_X3_figure rd_place text_length bytes p1).2, rd_endA, rd_endB))) ∧ wE (fun q => q = a_rd) w0 w2) := by
  refine CT.of (own := RX3) (by decide +kernel) rfl (Nat.le_of_ble_eq_true rfl) (fun X hC hR hI => ?_)
  show V g X 3 w0 0 0 0 [(0, .ref a_rd), (1, .int p1)] []
  have hE : wE (fun q => q = a_rd) w0 w0 := wE.refl
  refine vv_aload_n hC 0 dX3_figure_0 rfl rfl ?_
  refine vv_get (v := .ref a_text) hC fl_X3_28 dX3_figure_1 h_rd rfl ?_
  refine vv_aload_n hC 0 dX3_figure_4 rfl rfl ?_
  refine vv_get (v := .int rd_place) hC fl_X3_18 dX3_figure_5 h_rd rfl ?_
  refine vv_callV hC dX3_figure_8 md_X6_byteAt lk_m_X3_32 lk_i_X6_byteAt lk_s_X6_byteAt h_text rfl (As := [.int rd_place]) (rest := []) (c_X6_byteAt g w0 a_text a_bytes text_length bytes rd_place h_text h_bytes) rfl rfl (Nat.le_of_ble_eq_true rfl) ⟨by decide, by decide, by decide, by decide⟩ (fun r w9 hq => ?_)
  obtain ⟨rfl, rfl⟩ := hq
  show V g X 3 w0 0 0 11 [(0, .ref a_rd), (1, .int p1)] [.int (f_X6_byteAt text_length bytes rd_place)]
  refine vv_bipush (v := (48)) hC dX3_figure_11 (by decide) ?_
  refine vv_isub hC dX3_figure_13 ?_
  refine vv_istore_n (lv2 := [(2, .int (f_X6_byteAt text_length bytes rd_place - 48)), (0, .ref a_rd), (1, .int p1)]) hC dX3_figure_14 rfl (by decide) rfl ?_
  refine vv_iload_n hC 0 dX3_figure_15 rfl rfl ?_
  refine vv_if_lt hC 33 dX3_figure_16 (by decide) (fun c1 => ?_) (fun c1 => ?_)
  · have c1 : (f_X6_byteAt text_length bytes rd_place - 48) < 0 := c1
    refine vv_bipush (v := (-9)) hC dX3_figure_33 (by decide) ?_
    have hf : (f_X3_figure rd_place text_length bytes p1) = ((-9), rd_place) := by first | (simp only [f_X3_figure, if_pos c1]; done) | rfl | (simp only [f_X3_figure, if_pos c1]; rfl)
    refine vv_iret hC hR rfl dX3_figure_35 (by omega) (by omega) ?_
    rw [hf]
    try dsimp only
    exact ⟨rfl, h_rd, hE⟩
  · have c1 : ¬ ((f_X6_byteAt text_length bytes rd_place - 48) < 0) := c1
    refine vv_iload_n hC 0 dX3_figure_19 rfl rfl ?_
    refine vv_bipush (v := (9)) hC dX3_figure_20 (by decide) ?_
    refine vv_icmp_gt hC 33 dX3_figure_22 (by decide) (fun c2 => ?_) (fun c2 => ?_)
    · have c2 : 9 < (f_X6_byteAt text_length bytes rd_place - 48) := c2
      refine vv_bipush (v := (-9)) hC dX3_figure_33 (by decide) ?_
      have hf : (f_X3_figure rd_place text_length bytes p1) = ((-9), rd_place) := by first | (simp only [f_X3_figure, if_neg c1, if_pos c2]; done) | rfl | (simp only [f_X3_figure, if_neg c1, if_pos c2]; rfl)
      refine vv_iret hC hR rfl dX3_figure_35 (by omega) (by omega) ?_
      rw [hf]
      try dsimp only
      exact ⟨rfl, h_rd, hE⟩
    · have c2 : ¬ (9 < (f_X6_byteAt text_length bytes rd_place - 48)) := c2
      refine vv_iload_n hC 2 dX3_figure_25 rfl rfl ?_
      refine vv_iload_n hC 0 dX3_figure_26 rfl rfl ?_
      refine vv_callSN hC dX3_figure_27 md_X8_has lk_n_X3_103 lk_t_X8_has (As := [.int p1, .int (f_X6_byteAt text_length bytes rd_place - 48)]) (rest := []) (c_X8_has g w0 p1 (f_X6_byteAt text_length bytes rd_place - 48)) rfl rfl (Nat.le_of_ble_eq_true rfl) ⟨by decide, by decide, by decide, by decide⟩ (fun r w9 hq => ?_)
      obtain ⟨rfl, rfl⟩ := hq
      show V g X 3 w0 0 0 30 [(2, .int (f_X6_byteAt text_length bytes rd_place - 48)), (0, .ref a_rd), (1, .int p1)] [.int (bI (f_X8_has p1 (f_X6_byteAt text_length bytes rd_place - 48)))]
      refine vv_if_ne hC 36 dX3_figure_30 (by decide) (fun c3 => ?_) (fun c3 => ?_)
      · have c3 : f_X8_has p1 (f_X6_byteAt text_length bytes rd_place - 48) = true := bI_t c3
        refine vv_aload_n hC 1 dX3_figure_36 rfl rfl ?_
        refine vv_dup hC dX3_figure_37 rfl ?_
        refine vv_get (v := .int rd_place) hC fl_X3_18 dX3_figure_38 h_rd rfl ?_
        refine vv_iconst (v := 1) hC dX3_figure_41 (by decide) ?_
        refine vv_iadd hC dX3_figure_42 ?_
        refine vv_put hC fp_X3_18 dX3_figure_43 h_rd rfl rfl (Nat.le_of_ble_eq_true rfl) (fun w4 t1 hs => ?_)
        have t1 : w4 a_rd = some (.inr (3, cRd a_text a_village ((rd_place + 1), rd_endA, rd_endB))) := t1.trans (congrArg (fun z => some (Sum.inr (3, z))) (eRd_place _ _ _ _ _ _))
        have h_text := hs _ _ (fw_oo h_text h_rd (by decide)) h_text
        have h_bytes := hs _ _ (fw_ao h_bytes h_rd) h_bytes
        have h_rd := t1
        have hE := hE.trans (hs.mono (fun _ z => z))
        refine vv_iload_n hC 0 dX3_figure_46 rfl rfl ?_
        have hf : (f_X3_figure rd_place text_length bytes p1) = ((f_X6_byteAt text_length bytes rd_place - 48), (rd_place + 1)) := by first | (simp only [f_X3_figure, if_neg c1, if_neg c2, if_pos c3]; done) | rfl | (simp only [f_X3_figure, if_neg c1, if_neg c2, if_pos c3]; rfl)
        refine vv_iret hC hR rfl dX3_figure_47 (by omega) (by omega) ?_
        rw [hf]
        try dsimp only
        exact ⟨rfl, h_rd, hE⟩
      · have c3 : ¬ (f_X8_has p1 (f_X6_byteAt text_length bytes rd_place - 48) = true) := bI_f c3
        refine vv_bipush (v := (-9)) hC dX3_figure_33 (by decide) ?_
        have hf : (f_X3_figure rd_place text_length bytes p1) = ((-9), rd_place) := by first | (simp only [f_X3_figure, if_neg c1, if_neg c2, if_neg c3]; done) | rfl | (simp only [f_X3_figure, if_neg c1, if_neg c2, if_neg c3]; rfl)
        refine vv_iret hC hR rfl dX3_figure_35 (by omega) (by omega) ?_
        rw [hf]
        try dsimp only
        exact ⟨rfl, h_rd, hE⟩
def f_X3_unlinked (p0 : Int64) (p2 : Int32) (p3 : Int32) : Int32 := ((f_X8_below p2 &&& (f_X8_cell p0 p3 ^^^ (-1))) &&& (f_X8_bit p3 ^^^ (-1)))
set_option maxHeartbeats 4000000 in
set_option maxRecDepth 100000 in
theorem c_X3_unlinked (g : GT) (w0 : Wd) (p0 : Int64) (p2 : Int32) (p3 : Int32) : CT g yX3_unlinked cX3_unlinked 4 (some .int) 1 22 0 0 w0 [.long p0, .int p2, .int p3] (fun r w2 => r = some (.int (f_X3_unlinked p0 p2 p3)) ∧ w0 = w2) := by
  refine CT.of (own := RX3) (by decide +kernel) rfl (Nat.le_of_ble_eq_true rfl) (fun X hC hR hI => ?_)
  show V g X 4 w0 0 0 0 [(0, .long p0), (2, .int p2), (3, .int p3)] []
  refine vv_iload_n hC 1 dX3_unlinked_0 rfl rfl ?_
  refine vv_callSN hC dX3_unlinked_1 md_X8_below lk_n_X3_60 lk_t_X8_below (As := [.int p2]) (rest := []) (c_X8_below g w0 p2) rfl rfl (Nat.le_of_ble_eq_true rfl) ⟨by decide, by decide, by decide, by decide⟩ (fun r w9 hq => ?_)
  obtain ⟨rfl, rfl⟩ := hq
  show V g X 4 w0 0 0 4 [(0, .long p0), (2, .int p2), (3, .int p3)] [.int (f_X8_below p2)]
  refine vv_lload_n hC 0 dX3_unlinked_4 rfl rfl ?_
  refine vv_iload_n hC 2 dX3_unlinked_5 rfl rfl ?_
  refine vv_callSN hC dX3_unlinked_6 md_X8_cell lk_n_X3_107 lk_t_X8_cell (As := [.long p0, .int p3]) (rest := [.int (f_X8_below p2)]) (c_X8_cell g w0 p0 p3) rfl rfl (Nat.le_of_ble_eq_true rfl) ⟨by decide, by decide, by decide, by decide⟩ (fun r w9 hq => ?_)
  obtain ⟨rfl, rfl⟩ := hq
  show V g X 4 w0 0 0 9 [(0, .long p0), (2, .int p2), (3, .int p3)] [.int (f_X8_cell p0 p3), .int (f_X8_below p2)]
  refine vv_iconst (v := (-1)) hC dX3_unlinked_9 (by decide) ?_
  refine vv_ixor hC dX3_unlinked_10 ?_
  refine vv_iand hC dX3_unlinked_11 ?_
  refine vv_iload_n hC 2 dX3_unlinked_12 rfl rfl ?_
  refine vv_callSN hC dX3_unlinked_13 md_X8_bit lk_n_X3_110 lk_t_X8_bit (As := [.int p3]) (rest := [.int (f_X8_below p2 &&& (f_X8_cell p0 p3 ^^^ (-1)))]) (c_X8_bit g w0 p3) rfl rfl (Nat.le_of_ble_eq_true rfl) ⟨by decide, by decide, by decide, by decide⟩ (fun r w9 hq => ?_)
  obtain ⟨rfl, rfl⟩ := hq
  show V g X 4 w0 0 0 16 [(0, .long p0), (2, .int p2), (3, .int p3)] [.int (f_X8_bit p3), .int (f_X8_below p2 &&& (f_X8_cell p0 p3 ^^^ (-1)))]
  refine vv_iconst (v := (-1)) hC dX3_unlinked_16 (by decide) ?_
  refine vv_ixor hC dX3_unlinked_17 ?_
  refine vv_iand hC dX3_unlinked_18 ?_
  have hf : (f_X3_unlinked p0 p2 p3) = ((f_X8_below p2 &&& (f_X8_cell p0 p3 ^^^ (-1))) &&& (f_X8_bit p3 ^^^ (-1))) := by first | (simp only [f_X3_unlinked]; done) | rfl | (simp only [f_X3_unlinked]; rfl)
  refine vv_iret hC hR rfl dX3_unlinked_19 (by omega) (by omega) ?_
  rw [hf]
  exact ⟨rfl, rfl⟩
def f_X3_linkable_L5 (p0 : Int64) (p2 : Nat) : Nat → Nat → Int32 → Int32
  | 0, k5, l3_5 => l3_5
  | r5 + 1, k5, l3_5 => f_X3_linkable_L5 p0 p2 r5 (k5 + 1) (if f_X3_unlinked p0 (nI p2) (nI k5) = 0 then l3_5 else (l3_5 ||| f_X8_bit (nI k5)))
def f_X3_linkable (p0 : Int64) (p2 : Nat) : Int32 := (f_X3_linkable_L5 p0 p2 p2 0 0)
set_option maxHeartbeats 4000000 in
set_option maxRecDepth 100000 in
theorem c_X3_linkable (g : GT) (w0 : Wd) (p0 : Int64) (p2 : Nat) (hn : p2 ≤ 6) : CT g yX3_linkable cX3_linkable 5 (some .int) 2 45 0 0 w0 [.long p0, .int (nI p2)] (fun r w2 => r = some (.int (f_X3_linkable p0 p2)) ∧ w0 = w2) := by
  refine CT.of (own := RX3) (by decide +kernel) rfl (Nat.le_of_ble_eq_true rfl) (fun X hC hR hI => ?_)
  show V g X 5 w0 0 0 0 [(0, .long p0), (2, .int (nI p2))] []
  refine vv_iconst (v := 0) hC dX3_linkable_0 (by decide) ?_
  refine vv_istore_n (lv2 := [(3, .int 0), (0, .long p0), (2, .int (nI p2))]) hC dX3_linkable_1 rfl (by decide) rfl ?_
  refine vv_iconst (v := 0) hC dX3_linkable_2 (by decide) ?_
  refine vv_istore (lv2 := [(4, .int 0), (3, .int 0), (0, .long p0), (2, .int (nI p2))]) hC dX3_linkable_3 (by decide) rfl ?_
  have hL3 : ∀ (r5 k5 : Nat) (l3_5 : Int32) (out : Int32), k5 + r5 = p2 → out = f_X3_linkable_L5 p0 p2 r5 k5 l3_5 → V g X 5 w0 0 0 35 [(0, .long p0), (2, .int (nI p2)), (3, .int out)] [] → V g X 5 w0 0 0 5 [(0, .long p0), (2, .int (nI p2)), (3, .int l3_5), (4, .int (nI k5))] [] := by
    intro r5
    induction r5 with
    | zero =>
      intro k5 l3_5 out hb ho hk
      refine vv_iload hC 3 dX3_linkable_5 rfl ?_
      refine vv_iload_n hC 1 dX3_linkable_7 rfl rfl ?_
      refine vv_icmp_ge hC 35 dX3_linkable_8 (by decide) (fun c => ?_) (fun c => False.elim (c ((nI_le_ (a := p2) (b := k5) (by omega) (by omega)).mpr (by omega))))
      refine vv_lv [0, 1, 2] rfl ?_
      have ho := ho.trans (by first | (simp only [f_X3_linkable_L5]; done) | rfl | (simp only [f_X3_linkable_L5]; rfl) : _ = l3_5)
      subst ho
      exact hk
    | succ r5 ih =>
      intro k5 l3_5 out hb ho hk
      refine vv_iload hC 3 dX3_linkable_5 rfl ?_
      refine vv_iload_n hC 1 dX3_linkable_7 rfl rfl ?_
      refine vv_icmp_ge hC 35 dX3_linkable_8 (by decide) (fun c => absurd ((nI_le_ (a := p2) (b := k5) (by omega) (by omega)).mp c) (by first | omega | decide)) (fun c => ?_)
      refine vv_lload_n hC 0 dX3_linkable_11 rfl rfl ?_
      refine vv_iload_n hC 1 dX3_linkable_12 rfl rfl ?_
      refine vv_iload hC 3 dX3_linkable_13 rfl ?_
      refine vv_callS hC dX3_linkable_15 md_X3_unlinked lk_m_X3_99 lk_t_X3_unlinked (As := [.long p0, .int (nI p2), .int (nI k5)]) (rest := []) (c_X3_unlinked g w0 p0 (nI p2) (nI k5)) rfl rfl (Nat.le_of_ble_eq_true rfl) ⟨by decide, by decide, by decide, by decide⟩ (fun r w9 hq => ?_)
      obtain ⟨rfl, rfl⟩ := hq
      show V g X 5 w0 0 0 18 [(0, .long p0), (2, .int (nI p2)), (3, .int l3_5), (4, .int (nI k5))] [.int (f_X3_unlinked p0 (nI p2) (nI k5))]
      have hJ2 : V g X 5 w0 0 0 29 [(0, .long p0), (2, .int (nI p2)), (3, .int (if f_X3_unlinked p0 (nI p2) (nI k5) = 0 then l3_5 else (l3_5 ||| f_X8_bit (nI k5)))), (4, .int (nI k5))] [] := by
        refine vv_iinc (lv2 := [(4, .int (nI (k5 + 1))), (0, .long p0), (2, .int (nI p2)), (3, .int (if f_X3_unlinked p0 (nI p2) (nI k5) = 0 then l3_5 else (l3_5 ||| f_X8_bit (nI k5))))]) hC 3 dX3_linkable_29 rfl (nI_add k5 1) (by decide) rfl ?_
        refine vv_goto hC 5 dX3_linkable_32 (by decide) ?_
        refine vv_lv [1, 2, 3, 0] rfl ?_
        exact ih (k5 + 1) (if f_X3_unlinked p0 (nI p2) (nI k5) = 0 then l3_5 else (l3_5 ||| f_X8_bit (nI k5))) out (by omega) (ho.trans (by first | (simp only [f_X3_linkable_L5]; done) | rfl | (simp only [f_X3_linkable_L5]; rfl))) hk
      refine vv_if_eq hC 29 dX3_linkable_18 (by decide) (fun c1 => ?_) (fun c1 => ?_)
      · have c1 : f_X3_unlinked p0 (nI p2) (nI k5) = 0 := c1
        have hz := hJ2
        try simp only [if_pos c1] at hz
        first | exact hz | (simp only [if_pos c1]; exact hz)
      · have c1 : ¬ (f_X3_unlinked p0 (nI p2) (nI k5) = 0) := c1
        refine vv_iload_n hC 2 dX3_linkable_21 rfl rfl ?_
        refine vv_iload hC 3 dX3_linkable_22 rfl ?_
        refine vv_callSN hC dX3_linkable_24 md_X8_bit lk_n_X3_110 lk_t_X8_bit (As := [.int (nI k5)]) (rest := [.int l3_5]) (c_X8_bit g w0 (nI k5)) rfl rfl (Nat.le_of_ble_eq_true rfl) ⟨by decide, by decide, by decide, by decide⟩ (fun r w9 hq => ?_)
        obtain ⟨rfl, rfl⟩ := hq
        show V g X 5 w0 0 0 27 [(0, .long p0), (2, .int (nI p2)), (3, .int l3_5), (4, .int (nI k5))] [.int (f_X8_bit (nI k5)), .int l3_5]
        refine vv_ior hC dX3_linkable_27 ?_
        refine vv_istore_n (lv2 := [(3, .int (l3_5 ||| f_X8_bit (nI k5))), (0, .long p0), (2, .int (nI p2)), (4, .int (nI k5))]) hC dX3_linkable_28 rfl (by decide) rfl ?_
        refine vv_lv [1, 2, 0, 3] rfl ?_
        have hz := hJ2
        try simp only [if_neg c1] at hz
        first | exact hz | (simp only [if_neg c1]; exact hz)
  refine vv_lv [2, 3, 1, 0] rfl ?_
  refine hL3 p2 0 0 (f_X3_linkable_L5 p0 p2 p2 0 0) (by omega) rfl ?_
  refine vv_iload_n hC 2 dX3_linkable_35 rfl rfl ?_
  have hf : (f_X3_linkable p0 p2) = (f_X3_linkable_L5 p0 p2 p2 0 0) := by first | (simp only [f_X3_linkable]; done) | rfl | (simp only [f_X3_linkable]; rfl)
  refine vv_iret hC hR rfl dX3_linkable_36 (by omega) (by omega) ?_
  rw [hf]
  exact ⟨rfl, rfl⟩
def f_X3_readEnds_x1 (rd_place : Int32) (text_length : Nat) (bytes : Nat → Int32) (p1 : Int64) (p3 : Nat) : Int32 := (if 0 ≤ (f_X3_figure (rd_place + 1) text_length bytes (f_X3_linkable p1 p3)).1 then (f_X3_figure ((f_X3_figure (rd_place + 1) text_length bytes (f_X3_linkable p1 p3)).2) text_length bytes (f_X3_unlinked p1 (nI p3) ((f_X3_figure (rd_place + 1) text_length bytes (f_X3_linkable p1 p3)).1))).1 else (-9 : Int32))
def f_X3_readEnds_x2 (rd_place : Int32) (text_length : Nat) (bytes : Nat → Int32) (p1 : Int64) (p3 : Nat) : Int32 := (if 0 ≤ (f_X3_figure (rd_place + 1) text_length bytes (f_X3_linkable p1 p3)).1 then (f_X3_figure ((f_X3_figure (rd_place + 1) text_length bytes (f_X3_linkable p1 p3)).2) text_length bytes (f_X3_unlinked p1 (nI p3) ((f_X3_figure (rd_place + 1) text_length bytes (f_X3_linkable p1 p3)).1))).2 else (f_X3_figure (rd_place + 1) text_length bytes (f_X3_linkable p1 p3)).2)
def f_X3_readEnds (rd_place : Int32) (rd_endA : Int32) (rd_endB : Int32) (text_length : Nat) (bytes : Nat → Int32) (p1 : Int64) (p3 : Nat) : Bool × Int32 × Int32 × Int32 := (if f_X3_linkable p1 p3 = 0 then (false, rd_place, rd_endA, rd_endB) else ((if (f_X3_readEnds_x1 rd_place text_length bytes p1 p3) < 0 then false else true), (f_X3_readEnds_x2 rd_place text_length bytes p1 p3), (f_X3_figure (rd_place + 1) text_length bytes (f_X3_linkable p1 p3)).1, (f_X3_readEnds_x1 rd_place text_length bytes p1 p3)))
set_option maxHeartbeats 4000000 in
set_option maxRecDepth 100000 in
theorem c_X3_readEnds (g : GT) (w0 : Wd) (a_rd : Nat) (a_text : Nat) (a_village : Nat) (a_bytes : Nat) (rd_place : Int32) (rd_endA : Int32) (rd_endB : Int32) (text_length : Nat) (bytes : Nat → Int32) (p1 : Int64) (p3 : Nat) (hn : p3 ≤ 6) (h_rd : w0 a_rd = some (.inr (3, cRd a_text a_village (rd_place, rd_endA, rd_endB)))) (h_text : w0 a_text = some (.inr (6, cTx a_bytes text_length))) (h_bytes : w0 a_bytes = some (.inl (g.2.2.1 2, 96, .inl bytes))) : CT g yX3_readEnds cX3_readEnds 5 (some .boolean) 3 69 0 0 w0 [.ref a_rd, .long p1, .int (nI p3)] (fun r w2 => r = some (.int (bI ((f_X3_readEnds rd_place rd_endA rd_endB text_length bytes p1 p3).1))) ∧ w2 a_rd = some (.inr (3, cRd a_text a_village ((f_X3_readEnds rd_place rd_endA rd_endB text_length bytes p1 p3).2.1, (f_X3_readEnds rd_place rd_endA rd_endB text_length bytes p1 p3).2.2.1, (f_X3_readEnds rd_place rd_endA rd_endB text_length bytes p1 p3).2.2.2))) ∧ wE (fun q => q = a_rd) w0 w2) := by
  refine CT.of (own := RX3) (by decide +kernel) rfl (Nat.le_of_ble_eq_true rfl) (fun X hC hR hI => ?_)
  show V g X 5 w0 0 0 0 [(0, .ref a_rd), (1, .long p1), (3, .int (nI p3))] []
  have hE : wE (fun q => q = a_rd) w0 w0 := wE.refl
  refine vv_lload_n hC 1 dX3_readEnds_0 rfl rfl ?_
  refine vv_iload_n hC 2 dX3_readEnds_1 rfl rfl ?_
  refine vv_callS hC dX3_readEnds_2 md_X3_linkable lk_m_X3_95 lk_t_X3_linkable (As := [.long p1, .int (nI p3)]) (rest := []) (c_X3_linkable g w0 p1 p3 (by omega)) rfl rfl (Nat.le_of_ble_eq_true rfl) ⟨by decide, by decide, by decide, by decide⟩ (fun r w9 hq => ?_)
  obtain ⟨rfl, rfl⟩ := hq
  show V g X 5 w0 0 0 5 [(0, .ref a_rd), (1, .long p1), (3, .int (nI p3))] [.int (f_X3_linkable p1 p3)]
  refine vv_istore (lv2 := [(4, .int (f_X3_linkable p1 p3)), (0, .ref a_rd), (1, .long p1), (3, .int (nI p3))]) hC dX3_readEnds_5 (by decide) rfl ?_
  refine vv_iload hC 0 dX3_readEnds_7 rfl ?_
  refine vv_if_ne hC 14 dX3_readEnds_9 (by decide) (fun c1 => ?_) (fun c1 => ?_)
  · have c1 : ¬ (f_X3_linkable p1 p3 = 0) := c1
    refine vv_aload_n hC 1 dX3_readEnds_14 rfl rfl ?_
    refine vv_dup hC dX3_readEnds_15 rfl ?_
    refine vv_get (v := .int rd_place) hC fl_X3_18 dX3_readEnds_16 h_rd rfl ?_
    refine vv_iconst (v := 1) hC dX3_readEnds_19 (by decide) ?_
    refine vv_iadd hC dX3_readEnds_20 ?_
    refine vv_put hC fp_X3_18 dX3_readEnds_21 h_rd rfl rfl (Nat.le_of_ble_eq_true rfl) (fun w2 t1 hs => ?_)
    have t1 : w2 a_rd = some (.inr (3, cRd a_text a_village ((rd_place + 1), rd_endA, rd_endB))) := t1.trans (congrArg (fun z => some (Sum.inr (3, z))) (eRd_place _ _ _ _ _ _))
    have h_text := hs _ _ (fw_oo h_text h_rd (by decide)) h_text
    have h_bytes := hs _ _ (fw_ao h_bytes h_rd) h_bytes
    have h_rd := t1
    have hE := hE.trans (hs.mono (fun _ z => z))
    refine vv_aload_n hC 1 dX3_readEnds_24 rfl rfl ?_
    refine vv_aload_n hC 1 dX3_readEnds_25 rfl rfl ?_
    refine vv_iload hC 0 dX3_readEnds_26 rfl ?_
    refine vv_callV hC dX3_readEnds_28 md_X3_figure lk_m_X3_63 lk_i_X3_figure lk_s_X3_figure h_rd rfl (As := [.int (f_X3_linkable p1 p3)]) (rest := [.ref a_rd]) (c_X3_figure g w2 a_rd a_text a_village a_bytes (rd_place + 1) rd_endA rd_endB text_length bytes (f_X3_linkable p1 p3) h_rd h_text h_bytes) rfl rfl (Nat.le_of_ble_eq_true rfl) ⟨by decide, by decide, by decide, by decide⟩ (fun r w9 hq => ?_)
    obtain ⟨rfl, t1, hs⟩ := hq
    obtain ⟨w3, rfl⟩ : ∃ z, z = w9 := ⟨_, rfl⟩
    have h_text := hs _ _ (fw_oo h_text h_rd (by decide)) h_text
    have h_bytes := hs _ _ (fw_ao h_bytes h_rd) h_bytes
    have h_rd := t1
    have hE := hE.trans (hs.mono (fun _ z => z))
    show V g X 5 w3 0 0 31 [(4, .int (f_X3_linkable p1 p3)), (0, .ref a_rd), (1, .long p1), (3, .int (nI p3))] [.int ((f_X3_figure (rd_place + 1) text_length bytes (f_X3_linkable p1 p3)).1), .ref a_rd]
    refine vv_put hC fp_X3_22 dX3_readEnds_31 h_rd rfl rfl (Nat.le_of_ble_eq_true rfl) (fun w4 t1 hs => ?_)
    have t1 : w4 a_rd = some (.inr (3, cRd a_text a_village ((f_X3_figure (rd_place + 1) text_length bytes (f_X3_linkable p1 p3)).2, (f_X3_figure (rd_place + 1) text_length bytes (f_X3_linkable p1 p3)).1, rd_endB))) := t1.trans (congrArg (fun z => some (Sum.inr (3, z))) (eRd_endA _ _ _ _ _ _))
    have h_text := hs _ _ (fw_oo h_text h_rd (by decide)) h_text
    have h_bytes := hs _ _ (fw_ao h_bytes h_rd) h_bytes
    have h_rd := t1
    have hE := hE.trans (hs.mono (fun _ z => z))
    refine vv_aload_n hC 1 dX3_readEnds_34 rfl rfl ?_
    refine vv_aload_n hC 1 dX3_readEnds_35 rfl rfl ?_
    refine vv_get (v := .int ((f_X3_figure (rd_place + 1) text_length bytes (f_X3_linkable p1 p3)).1)) hC fl_X3_22 dX3_readEnds_36 h_rd rfl ?_
    have hJ6 : ∀ w8 : Wd, w8 a_rd = some (.inr (3, cRd a_text a_village ((f_X3_readEnds_x2 rd_place text_length bytes p1 p3), (f_X3_figure (rd_place + 1) text_length bytes (f_X3_linkable p1 p3)).1, rd_endB))) → w8 a_text = some (.inr (6, cTx a_bytes text_length)) → w8 a_bytes = some (.inl (g.2.2.1 2, 96, .inl bytes)) → wE (fun q => q = a_rd) w0 w8 → V g X 5 w8 0 0 60 [(0, .ref a_rd), (1, .long p1), (3, .int (nI p3)), (4, .int (f_X3_linkable p1 p3))] [.int (f_X3_readEnds_x1 rd_place text_length bytes p1 p3), .ref a_rd] := by
      intro w8 h_rd h_text h_bytes hE
      refine vv_put hC fp_X3_25 dX3_readEnds_60 h_rd rfl rfl (Nat.le_of_ble_eq_true rfl) (fun w9 t1 hs => ?_)
      have t1 : w9 a_rd = some (.inr (3, cRd a_text a_village ((f_X3_readEnds_x2 rd_place text_length bytes p1 p3), (f_X3_figure (rd_place + 1) text_length bytes (f_X3_linkable p1 p3)).1, (f_X3_readEnds_x1 rd_place text_length bytes p1 p3)))) := t1.trans (congrArg (fun z => some (Sum.inr (3, z))) (eRd_endB _ _ _ _ _ _))
      have h_text := hs _ _ (fw_oo h_text h_rd (by decide)) h_text
      have h_bytes := hs _ _ (fw_ao h_bytes h_rd) h_bytes
      have h_rd := t1
      have hE := hE.trans (hs.mono (fun _ z => z))
      refine vv_aload_n hC 0 dX3_readEnds_63 rfl rfl ?_
      refine vv_get (v := .int (f_X3_readEnds_x1 rd_place text_length bytes p1 p3)) hC fl_X3_25 dX3_readEnds_64 h_rd rfl ?_
      have hJ11 : V g X 5 w9 0 0 75 [(0, .ref a_rd), (1, .long p1), (3, .int (nI p3)), (4, .int (f_X3_linkable p1 p3))] [.int (bI (if (f_X3_readEnds_x1 rd_place text_length bytes p1 p3) < 0 then false else true))] := by
        have hf : (f_X3_readEnds rd_place rd_endA rd_endB text_length bytes p1 p3) = ((if (f_X3_readEnds_x1 rd_place text_length bytes p1 p3) < 0 then false else true), (f_X3_readEnds_x2 rd_place text_length bytes p1 p3), (f_X3_figure (rd_place + 1) text_length bytes (f_X3_linkable p1 p3)).1, (f_X3_readEnds_x1 rd_place text_length bytes p1 p3)) := by first | (simp only [f_X3_readEnds, if_neg c1]; done) | rfl | (simp only [f_X3_readEnds, if_neg c1]; rfl)
        refine vv_zret hC hR rfl (bI_nar _) dX3_readEnds_75 (by omega) (by omega) ?_
        rw [hf]
        try dsimp only
        exact ⟨rfl, h_rd, hE⟩
      refine vv_if_lt hC 74 dX3_readEnds_67 (by decide) (fun c10 => ?_) (fun c10 => ?_)
      · have c10 : (f_X3_readEnds_x1 rd_place text_length bytes p1 p3) < 0 := c10
        refine vv_iconst (v := 0) hC dX3_readEnds_74 (by decide) ?_
        have hz := hJ11
        try simp only [if_pos c10] at hz
        first | exact hz | (simp only [if_pos c10]; exact hz)
      · have c10 : ¬ ((f_X3_readEnds_x1 rd_place text_length bytes p1 p3) < 0) := c10
        refine vv_iconst (v := 1) hC dX3_readEnds_70 (by decide) ?_
        refine vv_goto hC 75 dX3_readEnds_71 (by decide) ?_
        have hz := hJ11
        try simp only [if_neg c10] at hz
        first | exact hz | (simp only [if_neg c10]; exact hz)
    refine vv_if_ge hC 47 dX3_readEnds_39 (by decide) (fun c5 => ?_) (fun c5 => ?_)
    · have c5 : 0 ≤ (f_X3_figure (rd_place + 1) text_length bytes (f_X3_linkable p1 p3)).1 := c5
      refine vv_aload_n hC 1 dX3_readEnds_47 rfl rfl ?_
      refine vv_lload_n hC 2 dX3_readEnds_48 rfl rfl ?_
      refine vv_iload_n hC 3 dX3_readEnds_49 rfl rfl ?_
      refine vv_aload_n hC 1 dX3_readEnds_50 rfl rfl ?_
      refine vv_get (v := .int ((f_X3_figure (rd_place + 1) text_length bytes (f_X3_linkable p1 p3)).1)) hC fl_X3_22 dX3_readEnds_51 h_rd rfl ?_
      refine vv_callS hC dX3_readEnds_54 md_X3_unlinked lk_m_X3_99 lk_t_X3_unlinked (As := [.long p1, .int (nI p3), .int ((f_X3_figure (rd_place + 1) text_length bytes (f_X3_linkable p1 p3)).1)]) (rest := [.ref a_rd, .ref a_rd]) (c_X3_unlinked g w4 p1 (nI p3) ((f_X3_figure (rd_place + 1) text_length bytes (f_X3_linkable p1 p3)).1)) rfl rfl (Nat.le_of_ble_eq_true rfl) ⟨by decide, by decide, by decide, by decide⟩ (fun r w9 hq => ?_)
      obtain ⟨rfl, rfl⟩ := hq
      show V g X 5 w4 0 0 57 [(4, .int (f_X3_linkable p1 p3)), (0, .ref a_rd), (1, .long p1), (3, .int (nI p3))] [.int (f_X3_unlinked p1 (nI p3) ((f_X3_figure (rd_place + 1) text_length bytes (f_X3_linkable p1 p3)).1)), .ref a_rd, .ref a_rd]
      refine vv_callV hC dX3_readEnds_57 md_X3_figure lk_m_X3_63 lk_i_X3_figure lk_s_X3_figure h_rd rfl (As := [.int (f_X3_unlinked p1 (nI p3) ((f_X3_figure (rd_place + 1) text_length bytes (f_X3_linkable p1 p3)).1))]) (rest := [.ref a_rd]) (c_X3_figure g w4 a_rd a_text a_village a_bytes ((f_X3_figure (rd_place + 1) text_length bytes (f_X3_linkable p1 p3)).2) ((f_X3_figure (rd_place + 1) text_length bytes (f_X3_linkable p1 p3)).1) rd_endB text_length bytes (f_X3_unlinked p1 (nI p3) ((f_X3_figure (rd_place + 1) text_length bytes (f_X3_linkable p1 p3)).1)) h_rd h_text h_bytes) rfl rfl (Nat.le_of_ble_eq_true rfl) ⟨by decide, by decide, by decide, by decide⟩ (fun r w9 hq => ?_)
      obtain ⟨rfl, t1, hs⟩ := hq
      obtain ⟨w7, rfl⟩ : ∃ z, z = w9 := ⟨_, rfl⟩
      have h_text := hs _ _ (fw_oo h_text h_rd (by decide)) h_text
      have h_bytes := hs _ _ (fw_ao h_bytes h_rd) h_bytes
      have h_rd := t1
      have hE := hE.trans (hs.mono (fun _ z => z))
      show V g X 5 w7 0 0 60 [(4, .int (f_X3_linkable p1 p3)), (0, .ref a_rd), (1, .long p1), (3, .int (nI p3))] [.int ((f_X3_figure ((f_X3_figure (rd_place + 1) text_length bytes (f_X3_linkable p1 p3)).2) text_length bytes (f_X3_unlinked p1 (nI p3) ((f_X3_figure (rd_place + 1) text_length bytes (f_X3_linkable p1 p3)).1))).1), .ref a_rd]
      refine vv_lv [1, 2, 3, 0] rfl ?_
      have hz := hJ6 w7
      try simp only [f_X3_readEnds_x1, f_X3_readEnds_x2, if_pos c5] at hz
      first | exact hz h_rd h_text h_bytes hE | (simp only [f_X3_readEnds_x1, f_X3_readEnds_x2, if_pos c5]; exact hz h_rd h_text h_bytes hE)
    · have c5 : ¬ (0 ≤ (f_X3_figure (rd_place + 1) text_length bytes (f_X3_linkable p1 p3)).1) := c5
      refine vv_bipush (v := (-9)) hC dX3_readEnds_42 (by decide) ?_
      refine vv_goto hC 60 dX3_readEnds_44 (by decide) ?_
      refine vv_lv [1, 2, 3, 0] rfl ?_
      have hz := hJ6 w4
      try simp only [f_X3_readEnds_x1, f_X3_readEnds_x2, if_neg c5] at hz
      first | exact hz h_rd h_text h_bytes hE | (simp only [f_X3_readEnds_x1, f_X3_readEnds_x2, if_neg c5]; exact hz h_rd h_text h_bytes hE)
  · have c1 : f_X3_linkable p1 p3 = 0 := c1
    refine vv_iconst (v := 0) hC dX3_readEnds_12 (by decide) ?_
    have hf : (f_X3_readEnds rd_place rd_endA rd_endB text_length bytes p1 p3) = (false, rd_place, rd_endA, rd_endB) := by first | (simp only [f_X3_readEnds, if_pos c1]; done) | rfl | (simp only [f_X3_readEnds, if_pos c1]; rfl)
    refine vv_zret hC hR rfl (by decide) dX3_readEnds_13 (by omega) (by omega) ?_
    rw [hf]
    try dsimp only
    exact ⟨rfl, h_rd, hE⟩
def f_X3_readHouse_x1 (rd_place : Int32) (text_length : Nat) (bytes : Nat → Int32) : Int32 := (if 0 ≤ (f_X3_figure (rd_place + 1) text_length bytes (f_X8_below 10)).1 then (f_X3_figure ((f_X3_figure (rd_place + 1) text_length bytes (f_X8_below 10)).2) text_length bytes (f_X8_below 3)).2 else (f_X3_figure (rd_place + 1) text_length bytes (f_X8_below 10)).2)
def f_X3_readHouse (rd_place : Int32) (village : TVi) (text_length : Nat) (bytes : Nat → Int32) : Bool × Int32 × TVi := (if gVi_houses village < 4 then (if 0 ≤ (if 0 ≤ (f_X3_figure (rd_place + 1) text_length bytes (f_X8_below 10)).1 then (f_X3_figure ((f_X3_figure (rd_place + 1) text_length bytes (f_X8_below 10)).2) text_length bytes (f_X8_below 3)).1 else (-9 : Int32)) then (true, (f_X3_readHouse_x1 rd_place text_length bytes), (f_X7_addHouse village ((f_X3_figure (rd_place + 1) text_length bytes (f_X8_below 10)).1) (if 0 ≤ (f_X3_figure (rd_place + 1) text_length bytes (f_X8_below 10)).1 then (f_X3_figure ((f_X3_figure (rd_place + 1) text_length bytes (f_X8_below 10)).2) text_length bytes (f_X8_below 3)).1 else (-9 : Int32)))) else (false, (f_X3_readHouse_x1 rd_place text_length bytes), village)) else (false, rd_place, village))
set_option maxHeartbeats 4000000 in
set_option maxRecDepth 100000 in
theorem c_X3_readHouse (g : GT) (w0 : Wd) (a_rd : Nat) (a_text : Nat) (a_village : Nat) (a_bytes : Nat) (rd_place : Int32) (rd_endA : Int32) (rd_endB : Int32) (village : TVi) (text_length : Nat) (bytes : Nat → Int32) (hvh : gVi_houses village ≤ 4) (hvp : gVi_people village ≤ 6) (h_rd : w0 a_rd = some (.inr (3, cRd a_text a_village (rd_place, rd_endA, rd_endB)))) (h_village : w0 a_village = some (.inr (7, cVi village))) (h_text : w0 a_text = some (.inr (6, cTx a_bytes text_length))) (h_bytes : w0 a_bytes = some (.inl (g.2.2.1 2, 96, .inl bytes))) : CT g yX3_readHouse cX3_readHouse 3 (some .boolean) 2 45 0 0 w0 [.ref a_rd] (fun r w2 => r = some (.int (bI ((f_X3_readHouse rd_place village text_length bytes).1))) ∧ w2 a_rd = some (.inr (3, cRd a_text a_village ((f_X3_readHouse rd_place village text_length bytes).2.1, rd_endA, rd_endB))) ∧ w2 a_village = some (.inr (7, cVi ((f_X3_readHouse rd_place village text_length bytes).2.2))) ∧ wE (fun q => q = a_rd ∨ q = a_village) w0 w2) := by
  refine CT.of (own := RX3) (by decide +kernel) rfl (Nat.le_of_ble_eq_true rfl) (fun X hC hR hI => ?_)
  show V g X 3 w0 0 0 0 [(0, .ref a_rd)] []
  have hE : wE (fun q => q = a_rd ∨ q = a_village) w0 w0 := wE.refl
  refine vv_aload_n hC 0 dX3_readHouse_0 rfl rfl ?_
  refine vv_get (v := .ref a_village) hC fl_X3_12 dX3_readHouse_1 h_rd rfl ?_
  refine vv_getN (v := .int (nI (gVi_houses village))) hC fl_X3_57 dX3_readHouse_4 h_village rfl ?_
  refine vv_iconst (v := 4) hC dX3_readHouse_7 (by decide) ?_
  refine vv_icmp_lt hC 13 dX3_readHouse_8 (by decide) (fun c1 => ?_) (fun c1 => ?_)
  · have c1 : gVi_houses village < 4 := (nI_lt_ (a := gVi_houses village) (b := 4) (by omega) (by omega)).mp c1
    refine vv_aload_n hC 0 dX3_readHouse_13 rfl rfl ?_
    refine vv_dup hC dX3_readHouse_14 rfl ?_
    refine vv_get (v := .int rd_place) hC fl_X3_18 dX3_readHouse_15 h_rd rfl ?_
    refine vv_iconst (v := 1) hC dX3_readHouse_18 (by decide) ?_
    refine vv_iadd hC dX3_readHouse_19 ?_
    refine vv_put hC fp_X3_18 dX3_readHouse_20 h_rd rfl rfl (Nat.le_of_ble_eq_true rfl) (fun w2 t1 hs => ?_)
    have t1 : w2 a_rd = some (.inr (3, cRd a_text a_village ((rd_place + 1), rd_endA, rd_endB))) := t1.trans (congrArg (fun z => some (Sum.inr (3, z))) (eRd_place _ _ _ _ _ _))
    have h_village := hs _ _ (fw_oo h_village h_rd (by decide)) h_village
    have h_text := hs _ _ (fw_oo h_text h_rd (by decide)) h_text
    have h_bytes := hs _ _ (fw_ao h_bytes h_rd) h_bytes
    have h_rd := t1
    have hE := hE.trans (hs.mono (fun _ z => (Or.inl z)))
    refine vv_aload_n hC 0 dX3_readHouse_23 rfl rfl ?_
    refine vv_bipush (v := (10)) hC dX3_readHouse_24 (by decide) ?_
    refine vv_callSN hC dX3_readHouse_26 md_X8_below lk_n_X3_60 lk_t_X8_below (As := [.int 10]) (rest := [.ref a_rd]) (c_X8_below g w2 10) rfl rfl (Nat.le_of_ble_eq_true rfl) ⟨by decide, by decide, by decide, by decide⟩ (fun r w9 hq => ?_)
    obtain ⟨rfl, rfl⟩ := hq
    show V g X 3 w2 0 0 29 [(0, .ref a_rd)] [.int (f_X8_below 10), .ref a_rd]
    refine vv_callV hC dX3_readHouse_29 md_X3_figure lk_m_X3_63 lk_i_X3_figure lk_s_X3_figure h_rd rfl (As := [.int (f_X8_below 10)]) (rest := []) (c_X3_figure g w2 a_rd a_text a_village a_bytes (rd_place + 1) rd_endA rd_endB text_length bytes (f_X8_below 10) h_rd h_text h_bytes) rfl rfl (Nat.le_of_ble_eq_true rfl) ⟨by decide, by decide, by decide, by decide⟩ (fun r w9 hq => ?_)
    obtain ⟨rfl, t1, hs⟩ := hq
    obtain ⟨w3, rfl⟩ : ∃ z, z = w9 := ⟨_, rfl⟩
    have h_village := hs _ _ (fw_oo h_village h_rd (by decide)) h_village
    have h_text := hs _ _ (fw_oo h_text h_rd (by decide)) h_text
    have h_bytes := hs _ _ (fw_ao h_bytes h_rd) h_bytes
    have h_rd := t1
    have hE := hE.trans (hs.mono (fun _ z => (Or.inl z)))
    show V g X 3 w3 0 0 32 [(0, .ref a_rd)] [.int ((f_X3_figure (rd_place + 1) text_length bytes (f_X8_below 10)).1)]
    refine vv_istore_n (lv2 := [(1, .int ((f_X3_figure (rd_place + 1) text_length bytes (f_X8_below 10)).1)), (0, .ref a_rd)]) hC dX3_readHouse_32 rfl (by decide) rfl ?_
    refine vv_iload_n hC 0 dX3_readHouse_33 rfl rfl ?_
    have hJ5 : ∀ w7 : Wd, w7 a_rd = some (.inr (3, cRd a_text a_village ((f_X3_readHouse_x1 rd_place text_length bytes), rd_endA, rd_endB))) → w7 a_village = some (.inr (7, cVi village)) → w7 a_text = some (.inr (6, cTx a_bytes text_length)) → w7 a_bytes = some (.inl (g.2.2.1 2, 96, .inl bytes)) → wE (fun q => q = a_rd ∨ q = a_village) w0 w7 → V g X 3 w7 0 0 50 [(0, .ref a_rd), (1, .int ((f_X3_figure (rd_place + 1) text_length bytes (f_X8_below 10)).1))] [.int (if 0 ≤ (f_X3_figure (rd_place + 1) text_length bytes (f_X8_below 10)).1 then (f_X3_figure ((f_X3_figure (rd_place + 1) text_length bytes (f_X8_below 10)).2) text_length bytes (f_X8_below 3)).1 else (-9 : Int32))] := by
      intro w7 h_rd h_village h_text h_bytes hE
      refine vv_istore_n (lv2 := [(2, .int (if 0 ≤ (f_X3_figure (rd_place + 1) text_length bytes (f_X8_below 10)).1 then (f_X3_figure ((f_X3_figure (rd_place + 1) text_length bytes (f_X8_below 10)).2) text_length bytes (f_X8_below 3)).1 else (-9 : Int32))), (0, .ref a_rd), (1, .int ((f_X3_figure (rd_place + 1) text_length bytes (f_X8_below 10)).1))]) hC dX3_readHouse_50 rfl (by decide) rfl ?_
      refine vv_iload_n hC 0 dX3_readHouse_51 rfl rfl ?_
      refine vv_if_ge hC 57 dX3_readHouse_52 (by decide) (fun c8 => ?_) (fun c8 => ?_)
      · have c8 : 0 ≤ (if 0 ≤ (f_X3_figure (rd_place + 1) text_length bytes (f_X8_below 10)).1 then (f_X3_figure ((f_X3_figure (rd_place + 1) text_length bytes (f_X8_below 10)).2) text_length bytes (f_X8_below 3)).1 else (-9 : Int32)) := c8
        refine vv_aload_n hC 1 dX3_readHouse_57 rfl rfl ?_
        refine vv_get (v := .ref a_village) hC fl_X3_12 dX3_readHouse_58 h_rd rfl ?_
        refine vv_iload_n hC 2 dX3_readHouse_61 rfl rfl ?_
        refine vv_iload_n hC 0 dX3_readHouse_62 rfl rfl ?_
        refine vv_callV hC dX3_readHouse_63 md_X7_addHouse lk_m_X3_66 lk_i_X7_addHouse lk_s_X7_addHouse h_village rfl (As := [.int ((f_X3_figure (rd_place + 1) text_length bytes (f_X8_below 10)).1), .int (if 0 ≤ (f_X3_figure (rd_place + 1) text_length bytes (f_X8_below 10)).1 then (f_X3_figure ((f_X3_figure (rd_place + 1) text_length bytes (f_X8_below 10)).2) text_length bytes (f_X8_below 3)).1 else (-9 : Int32))]) (rest := []) (c_X7_addHouse g w7 a_village village ((f_X3_figure (rd_place + 1) text_length bytes (f_X8_below 10)).1) (if 0 ≤ (f_X3_figure (rd_place + 1) text_length bytes (f_X8_below 10)).1 then (f_X3_figure ((f_X3_figure (rd_place + 1) text_length bytes (f_X8_below 10)).2) text_length bytes (f_X8_below 3)).1 else (-9 : Int32)) h_village) rfl rfl (Nat.le_of_ble_eq_true rfl) ⟨by decide, by decide, by decide, by decide⟩ (fun r w9 hq => ?_)
        obtain ⟨rfl, t1, hs⟩ := hq
        obtain ⟨w9, rfl⟩ : ∃ z, z = w9 := ⟨_, rfl⟩
        have h_rd := hs _ _ (fw_oo h_rd h_village (by decide)) h_rd
        have h_text := hs _ _ (fw_oo h_text h_village (by decide)) h_text
        have h_bytes := hs _ _ (fw_ao h_bytes h_village) h_bytes
        have h_village := t1
        have hE := hE.trans (hs.mono (fun _ z => (Or.inr z)))
        show V g X 3 w9 0 0 66 [(2, .int (if 0 ≤ (f_X3_figure (rd_place + 1) text_length bytes (f_X8_below 10)).1 then (f_X3_figure ((f_X3_figure (rd_place + 1) text_length bytes (f_X8_below 10)).2) text_length bytes (f_X8_below 3)).1 else (-9 : Int32))), (0, .ref a_rd), (1, .int ((f_X3_figure (rd_place + 1) text_length bytes (f_X8_below 10)).1))] []
        refine vv_iconst (v := 1) hC dX3_readHouse_66 (by decide) ?_
        have hf : (f_X3_readHouse rd_place village text_length bytes) = (true, (f_X3_readHouse_x1 rd_place text_length bytes), (f_X7_addHouse village ((f_X3_figure (rd_place + 1) text_length bytes (f_X8_below 10)).1) (if 0 ≤ (f_X3_figure (rd_place + 1) text_length bytes (f_X8_below 10)).1 then (f_X3_figure ((f_X3_figure (rd_place + 1) text_length bytes (f_X8_below 10)).2) text_length bytes (f_X8_below 3)).1 else (-9 : Int32)))) := by first | (simp only [f_X3_readHouse, if_pos c1, if_pos c8]; done) | rfl | (simp only [f_X3_readHouse, if_pos c1, if_pos c8]; rfl)
        refine vv_zret hC hR rfl (by decide) dX3_readHouse_67 (by omega) (by omega) ?_
        rw [hf]
        try dsimp only
        exact ⟨rfl, h_rd, h_village, hE⟩
      · have c8 : ¬ (0 ≤ (if 0 ≤ (f_X3_figure (rd_place + 1) text_length bytes (f_X8_below 10)).1 then (f_X3_figure ((f_X3_figure (rd_place + 1) text_length bytes (f_X8_below 10)).2) text_length bytes (f_X8_below 3)).1 else (-9 : Int32))) := c8
        refine vv_iconst (v := 0) hC dX3_readHouse_55 (by decide) ?_
        have hf : (f_X3_readHouse rd_place village text_length bytes) = (false, (f_X3_readHouse_x1 rd_place text_length bytes), village) := by first | (simp only [f_X3_readHouse, if_pos c1, if_neg c8]; done) | rfl | (simp only [f_X3_readHouse, if_pos c1, if_neg c8]; rfl)
        refine vv_zret hC hR rfl (by decide) dX3_readHouse_56 (by omega) (by omega) ?_
        rw [hf]
        try dsimp only
        exact ⟨rfl, h_rd, h_village, hE⟩
    refine vv_if_ge hC 42 dX3_readHouse_34 (by decide) (fun c4 => ?_) (fun c4 => ?_)
    · have c4 : 0 ≤ (f_X3_figure (rd_place + 1) text_length bytes (f_X8_below 10)).1 := c4
      refine vv_aload_n hC 1 dX3_readHouse_42 rfl rfl ?_
      refine vv_iconst (v := 3) hC dX3_readHouse_43 (by decide) ?_
      refine vv_callSN hC dX3_readHouse_44 md_X8_below lk_n_X3_60 lk_t_X8_below (As := [.int 3]) (rest := [.ref a_rd]) (c_X8_below g w3 3) rfl rfl (Nat.le_of_ble_eq_true rfl) ⟨by decide, by decide, by decide, by decide⟩ (fun r w9 hq => ?_)
      obtain ⟨rfl, rfl⟩ := hq
      show V g X 3 w3 0 0 47 [(1, .int ((f_X3_figure (rd_place + 1) text_length bytes (f_X8_below 10)).1)), (0, .ref a_rd)] [.int (f_X8_below 3), .ref a_rd]
      refine vv_callV hC dX3_readHouse_47 md_X3_figure lk_m_X3_63 lk_i_X3_figure lk_s_X3_figure h_rd rfl (As := [.int (f_X8_below 3)]) (rest := []) (c_X3_figure g w3 a_rd a_text a_village a_bytes ((f_X3_figure (rd_place + 1) text_length bytes (f_X8_below 10)).2) rd_endA rd_endB text_length bytes (f_X8_below 3) h_rd h_text h_bytes) rfl rfl (Nat.le_of_ble_eq_true rfl) ⟨by decide, by decide, by decide, by decide⟩ (fun r w9 hq => ?_)
      obtain ⟨rfl, t1, hs⟩ := hq
      obtain ⟨w6, rfl⟩ : ∃ z, z = w9 := ⟨_, rfl⟩
      have h_village := hs _ _ (fw_oo h_village h_rd (by decide)) h_village
      have h_text := hs _ _ (fw_oo h_text h_rd (by decide)) h_text
      have h_bytes := hs _ _ (fw_ao h_bytes h_rd) h_bytes
      have h_rd := t1
      have hE := hE.trans (hs.mono (fun _ z => (Or.inl z)))
      show V g X 3 w6 0 0 50 [(1, .int ((f_X3_figure (rd_place + 1) text_length bytes (f_X8_below 10)).1)), (0, .ref a_rd)] [.int ((f_X3_figure ((f_X3_figure (rd_place + 1) text_length bytes (f_X8_below 10)).2) text_length bytes (f_X8_below 3)).1)]
      refine vv_lv [1, 0] rfl ?_
      have hz := hJ5 w6
      try simp only [f_X3_readHouse_x1, if_pos c4] at hz
      first | exact hz h_rd h_village h_text h_bytes hE | (simp only [f_X3_readHouse_x1, if_pos c4]; exact hz h_rd h_village h_text h_bytes hE)
    · have c4 : ¬ (0 ≤ (f_X3_figure (rd_place + 1) text_length bytes (f_X8_below 10)).1) := c4
      refine vv_bipush (v := (-9)) hC dX3_readHouse_37 (by decide) ?_
      refine vv_goto hC 50 dX3_readHouse_39 (by decide) ?_
      refine vv_lv [1, 0] rfl ?_
      have hz := hJ5 w3
      try simp only [f_X3_readHouse_x1, if_neg c4] at hz
      first | exact hz h_rd h_village h_text h_bytes hE | (simp only [f_X3_readHouse_x1, if_neg c4]; exact hz h_rd h_village h_text h_bytes hE)
  · have c1 : ¬ (gVi_houses village < 4) := fun z => c1 ((nI_lt_ (a := gVi_houses village) (b := 4) (by omega) (by omega)).mpr z)
    refine vv_iconst (v := 0) hC dX3_readHouse_11 (by decide) ?_
    have hf : (f_X3_readHouse rd_place village text_length bytes) = (false, rd_place, village) := by first | (simp only [f_X3_readHouse, if_neg c1]; done) | rfl | (simp only [f_X3_readHouse, if_neg c1]; rfl)
    refine vv_zret hC hR rfl (by decide) dX3_readHouse_12 (by omega) (by omega) ?_
    rw [hf]
    try dsimp only
    exact ⟨rfl, h_rd, h_village, hE⟩
def f_X3_readPath_x1 (rd_place : Int32) (rd_endA : Int32) (rd_endB : Int32) (village : TVi) (text_length : Nat) (bytes : Nat → Int32) : Int32 := (if (f_X3_readEnds rd_place rd_endA rd_endB text_length bytes (gVi_paths village) (gVi_houses village)).1 = true then (f_X3_figure ((f_X3_readEnds rd_place rd_endA rd_endB text_length bytes (gVi_paths village) (gVi_houses village)).2.1) text_length bytes (f_X8_below 2)).1 else (-9 : Int32))
def f_X3_readPath_x2 (rd_place : Int32) (rd_endA : Int32) (rd_endB : Int32) (village : TVi) (text_length : Nat) (bytes : Nat → Int32) : Int32 := (if (f_X3_readEnds rd_place rd_endA rd_endB text_length bytes (gVi_paths village) (gVi_houses village)).1 = true then (f_X3_figure ((f_X3_readEnds rd_place rd_endA rd_endB text_length bytes (gVi_paths village) (gVi_houses village)).2.1) text_length bytes (f_X8_below 2)).2 else (f_X3_readEnds rd_place rd_endA rd_endB text_length bytes (gVi_paths village) (gVi_houses village)).2.1)
def f_X3_readPath (rd_place : Int32) (rd_endA : Int32) (rd_endB : Int32) (village : TVi) (text_length : Nat) (bytes : Nat → Int32) : Bool × Int32 × Int32 × Int32 × TVi := (if 0 ≤ (f_X3_readPath_x1 rd_place rd_endA rd_endB village text_length bytes) then (true, (f_X3_readPath_x2 rd_place rd_endA rd_endB village text_length bytes), (f_X3_readEnds rd_place rd_endA rd_endB text_length bytes (gVi_paths village) (gVi_houses village)).2.2.1, (f_X3_readEnds rd_place rd_endA rd_endB text_length bytes (gVi_paths village) (gVi_houses village)).2.2.2, (f_X7_addPath village ((f_X3_readEnds rd_place rd_endA rd_endB text_length bytes (gVi_paths village) (gVi_houses village)).2.2.1) ((f_X3_readEnds rd_place rd_endA rd_endB text_length bytes (gVi_paths village) (gVi_houses village)).2.2.2) (if (f_X3_readPath_x1 rd_place rd_endA rd_endB village text_length bytes) = 1 then true else false))) else (false, (f_X3_readPath_x2 rd_place rd_endA rd_endB village text_length bytes), (f_X3_readEnds rd_place rd_endA rd_endB text_length bytes (gVi_paths village) (gVi_houses village)).2.2.1, (f_X3_readEnds rd_place rd_endA rd_endB text_length bytes (gVi_paths village) (gVi_houses village)).2.2.2, village))
set_option maxHeartbeats 4000000 in
set_option maxRecDepth 100000 in
theorem c_X3_readPath (g : GT) (w0 : Wd) (a_rd : Nat) (a_text : Nat) (a_village : Nat) (a_bytes : Nat) (rd_place : Int32) (rd_endA : Int32) (rd_endB : Int32) (village : TVi) (text_length : Nat) (bytes : Nat → Int32) (hvh : gVi_houses village ≤ 4) (hvp : gVi_people village ≤ 6) (h_rd : w0 a_rd = some (.inr (3, cRd a_text a_village (rd_place, rd_endA, rd_endB)))) (h_village : w0 a_village = some (.inr (7, cVi village))) (h_text : w0 a_text = some (.inr (6, cTx a_bytes text_length))) (h_bytes : w0 a_bytes = some (.inl (g.2.2.1 2, 96, .inl bytes))) : CT g yX3_readPath cX3_readPath 2 (some .boolean) 4 93 0 0 w0 [.ref a_rd] (fun r w2 => r = some (.int (bI ((f_X3_readPath rd_place rd_endA rd_endB village text_length bytes).1))) ∧ w2 a_rd = some (.inr (3, cRd a_text a_village ((f_X3_readPath rd_place rd_endA rd_endB village text_length bytes).2.1, (f_X3_readPath rd_place rd_endA rd_endB village text_length bytes).2.2.1, (f_X3_readPath rd_place rd_endA rd_endB village text_length bytes).2.2.2.1))) ∧ w2 a_village = some (.inr (7, cVi ((f_X3_readPath rd_place rd_endA rd_endB village text_length bytes).2.2.2.2))) ∧ wE (fun q => q = a_rd ∨ q = a_village) w0 w2) := by
  refine CT.of (own := RX3) (by decide +kernel) rfl (Nat.le_of_ble_eq_true rfl) (fun X hC hR hI => ?_)
  show V g X 2 w0 0 0 0 [(0, .ref a_rd)] []
  have hE : wE (fun q => q = a_rd ∨ q = a_village) w0 w0 := wE.refl
  refine vv_aload_n hC 0 dX3_readPath_0 rfl rfl ?_
  refine vv_aload_n hC 0 dX3_readPath_1 rfl rfl ?_
  refine vv_get (v := .ref a_village) hC fl_X3_12 dX3_readPath_2 h_rd rfl ?_
  refine vv_getN (v := .long (gVi_paths village)) hC fl_X3_70 dX3_readPath_5 h_village rfl ?_
  refine vv_aload_n hC 0 dX3_readPath_8 rfl rfl ?_
  refine vv_get (v := .ref a_village) hC fl_X3_12 dX3_readPath_9 h_rd rfl ?_
  refine vv_getN (v := .int (nI (gVi_houses village))) hC fl_X3_57 dX3_readPath_12 h_village rfl ?_
  refine vv_callV hC dX3_readPath_15 md_X3_readEnds lk_m_X3_74 lk_i_X3_readEnds lk_s_X3_readEnds h_rd rfl (As := [.long (gVi_paths village), .int (nI (gVi_houses village))]) (rest := []) (c_X3_readEnds g w0 a_rd a_text a_village a_bytes rd_place rd_endA rd_endB text_length bytes (gVi_paths village) (gVi_houses village) (by omega) h_rd h_text h_bytes) rfl rfl (Nat.le_of_ble_eq_true rfl) ⟨by decide, by decide, by decide, by decide⟩ (fun r w9 hq => ?_)
  obtain ⟨rfl, t1, hs⟩ := hq
  obtain ⟨w1, rfl⟩ : ∃ z, z = w9 := ⟨_, rfl⟩
  have h_village := hs _ _ (fw_oo h_village h_rd (by decide)) h_village
  have h_text := hs _ _ (fw_oo h_text h_rd (by decide)) h_text
  have h_bytes := hs _ _ (fw_ao h_bytes h_rd) h_bytes
  have h_rd := t1
  have hE := hE.trans (hs.mono (fun _ z => (Or.inl z)))
  show V g X 2 w1 0 0 18 [(0, .ref a_rd)] [.int (bI ((f_X3_readEnds rd_place rd_endA rd_endB text_length bytes (gVi_paths village) (gVi_houses village)).1))]
  have hJ3 : ∀ w5 : Wd, w5 a_rd = some (.inr (3, cRd a_text a_village ((f_X3_readPath_x2 rd_place rd_endA rd_endB village text_length bytes), (f_X3_readEnds rd_place rd_endA rd_endB text_length bytes (gVi_paths village) (gVi_houses village)).2.2.1, (f_X3_readEnds rd_place rd_endA rd_endB text_length bytes (gVi_paths village) (gVi_houses village)).2.2.2))) → w5 a_village = some (.inr (7, cVi village)) → w5 a_text = some (.inr (6, cTx a_bytes text_length)) → w5 a_bytes = some (.inl (g.2.2.1 2, 96, .inl bytes)) → wE (fun q => q = a_rd ∨ q = a_village) w0 w5 → V g X 2 w5 0 0 34 [(0, .ref a_rd)] [.int (f_X3_readPath_x1 rd_place rd_endA rd_endB village text_length bytes)] := by
    intro w5 h_rd h_village h_text h_bytes hE
    refine vv_istore_n (lv2 := [(1, .int (f_X3_readPath_x1 rd_place rd_endA rd_endB village text_length bytes)), (0, .ref a_rd)]) hC dX3_readPath_34 rfl (by decide) rfl ?_
    refine vv_iload_n hC 0 dX3_readPath_35 rfl rfl ?_
    refine vv_if_ge hC 41 dX3_readPath_36 (by decide) (fun c6 => ?_) (fun c6 => ?_)
    · have c6 : 0 ≤ (f_X3_readPath_x1 rd_place rd_endA rd_endB village text_length bytes) := c6
      refine vv_aload_n hC 1 dX3_readPath_41 rfl rfl ?_
      refine vv_get (v := .ref a_village) hC fl_X3_12 dX3_readPath_42 h_rd rfl ?_
      refine vv_aload_n hC 1 dX3_readPath_45 rfl rfl ?_
      refine vv_get (v := .int ((f_X3_readEnds rd_place rd_endA rd_endB text_length bytes (gVi_paths village) (gVi_houses village)).2.2.1)) hC fl_X3_22 dX3_readPath_46 h_rd rfl ?_
      refine vv_aload_n hC 1 dX3_readPath_49 rfl rfl ?_
      refine vv_get (v := .int ((f_X3_readEnds rd_place rd_endA rd_endB text_length bytes (gVi_paths village) (gVi_houses village)).2.2.2)) hC fl_X3_25 dX3_readPath_50 h_rd rfl ?_
      refine vv_iload_n hC 0 dX3_readPath_53 rfl rfl ?_
      refine vv_iconst (v := 1) hC dX3_readPath_54 (by decide) ?_
      have hJ8 : V g X 2 w5 0 0 63 [(0, .ref a_rd), (1, .int (f_X3_readPath_x1 rd_place rd_endA rd_endB village text_length bytes))] [.int (bI (if (f_X3_readPath_x1 rd_place rd_endA rd_endB village text_length bytes) = 1 then true else false)), .int ((f_X3_readEnds rd_place rd_endA rd_endB text_length bytes (gVi_paths village) (gVi_houses village)).2.2.2), .int ((f_X3_readEnds rd_place rd_endA rd_endB text_length bytes (gVi_paths village) (gVi_houses village)).2.2.1), .ref a_village] := by
        refine vv_callV hC dX3_readPath_63 md_X7_addPath lk_m_X3_78 lk_i_X7_addPath lk_s_X7_addPath h_village rfl (As := [.int ((f_X3_readEnds rd_place rd_endA rd_endB text_length bytes (gVi_paths village) (gVi_houses village)).2.2.1), .int ((f_X3_readEnds rd_place rd_endA rd_endB text_length bytes (gVi_paths village) (gVi_houses village)).2.2.2), .int (bI (if (f_X3_readPath_x1 rd_place rd_endA rd_endB village text_length bytes) = 1 then true else false))]) (rest := []) (c_X7_addPath g w5 a_village village ((f_X3_readEnds rd_place rd_endA rd_endB text_length bytes (gVi_paths village) (gVi_houses village)).2.2.1) ((f_X3_readEnds rd_place rd_endA rd_endB text_length bytes (gVi_paths village) (gVi_houses village)).2.2.2) (if (f_X3_readPath_x1 rd_place rd_endA rd_endB village text_length bytes) = 1 then true else false) h_village) rfl rfl (Nat.le_of_ble_eq_true rfl) ⟨by decide, by decide, by decide, by decide⟩ (fun r w9 hq => ?_)
        obtain ⟨rfl, t1, hs⟩ := hq
        obtain ⟨w9, rfl⟩ : ∃ z, z = w9 := ⟨_, rfl⟩
        have h_rd := hs _ _ (fw_oo h_rd h_village (by decide)) h_rd
        have h_text := hs _ _ (fw_oo h_text h_village (by decide)) h_text
        have h_bytes := hs _ _ (fw_ao h_bytes h_village) h_bytes
        have h_village := t1
        have hE := hE.trans (hs.mono (fun _ z => (Or.inr z)))
        show V g X 2 w9 0 0 66 [(0, .ref a_rd), (1, .int (f_X3_readPath_x1 rd_place rd_endA rd_endB village text_length bytes))] []
        refine vv_iconst (v := 1) hC dX3_readPath_66 (by decide) ?_
        have hf : (f_X3_readPath rd_place rd_endA rd_endB village text_length bytes) = (true, (f_X3_readPath_x2 rd_place rd_endA rd_endB village text_length bytes), (f_X3_readEnds rd_place rd_endA rd_endB text_length bytes (gVi_paths village) (gVi_houses village)).2.2.1, (f_X3_readEnds rd_place rd_endA rd_endB text_length bytes (gVi_paths village) (gVi_houses village)).2.2.2, (f_X7_addPath village ((f_X3_readEnds rd_place rd_endA rd_endB text_length bytes (gVi_paths village) (gVi_houses village)).2.2.1) ((f_X3_readEnds rd_place rd_endA rd_endB text_length bytes (gVi_paths village) (gVi_houses village)).2.2.2) (if (f_X3_readPath_x1 rd_place rd_endA rd_endB village text_length bytes) = 1 then true else false))) := by first | (simp only [f_X3_readPath, if_pos c6]; done) | rfl | (simp only [f_X3_readPath, if_pos c6]; rfl)
        refine vv_zret hC hR rfl (by decide) dX3_readPath_67 (by omega) (by omega) ?_
        rw [hf]
        try dsimp only
        exact ⟨rfl, h_rd, h_village, hE⟩
      refine vv_icmp_ne hC 62 dX3_readPath_55 (by decide) (fun c7 => ?_) (fun c7 => ?_)
      · have c7 : ¬ ((f_X3_readPath_x1 rd_place rd_endA rd_endB village text_length bytes) = 1) := c7
        refine vv_iconst (v := 0) hC dX3_readPath_62 (by decide) ?_
        refine vv_lv [1, 0] rfl ?_
        have hz := hJ8
        try simp only [if_neg c7] at hz
        first | exact hz | (simp only [if_neg c7]; exact hz)
      · have c7 : (f_X3_readPath_x1 rd_place rd_endA rd_endB village text_length bytes) = 1 := c7
        refine vv_iconst (v := 1) hC dX3_readPath_58 (by decide) ?_
        refine vv_goto hC 63 dX3_readPath_59 (by decide) ?_
        refine vv_lv [1, 0] rfl ?_
        have hz := hJ8
        try simp only [if_pos c7] at hz
        first | exact hz | (simp only [if_pos c7]; exact hz)
    · have c6 : ¬ (0 ≤ (f_X3_readPath_x1 rd_place rd_endA rd_endB village text_length bytes)) := c6
      refine vv_iconst (v := 0) hC dX3_readPath_39 (by decide) ?_
      have hf : (f_X3_readPath rd_place rd_endA rd_endB village text_length bytes) = (false, (f_X3_readPath_x2 rd_place rd_endA rd_endB village text_length bytes), (f_X3_readEnds rd_place rd_endA rd_endB text_length bytes (gVi_paths village) (gVi_houses village)).2.2.1, (f_X3_readEnds rd_place rd_endA rd_endB text_length bytes (gVi_paths village) (gVi_houses village)).2.2.2, village) := by first | (simp only [f_X3_readPath, if_neg c6]; done) | rfl | (simp only [f_X3_readPath, if_neg c6]; rfl)
      refine vv_zret hC hR rfl (by decide) dX3_readPath_40 (by omega) (by omega) ?_
      rw [hf]
      try dsimp only
      exact ⟨rfl, h_rd, h_village, hE⟩
  refine vv_if_eq hC 32 dX3_readPath_18 (by decide) (fun c2 => ?_) (fun c2 => ?_)
  · have c2 : ¬ ((f_X3_readEnds rd_place rd_endA rd_endB text_length bytes (gVi_paths village) (gVi_houses village)).1 = true) := bI_f c2
    refine vv_bipush (v := (-9)) hC dX3_readPath_32 (by decide) ?_
    have hz := hJ3 w1
    try simp only [f_X3_readPath_x1, f_X3_readPath_x2, if_neg c2] at hz
    first | exact hz h_rd h_village h_text h_bytes hE | (simp only [f_X3_readPath_x1, f_X3_readPath_x2, if_neg c2]; exact hz h_rd h_village h_text h_bytes hE)
  · have c2 : (f_X3_readEnds rd_place rd_endA rd_endB text_length bytes (gVi_paths village) (gVi_houses village)).1 = true := bI_t c2
    refine vv_aload_n hC 0 dX3_readPath_21 rfl rfl ?_
    refine vv_iconst (v := 2) hC dX3_readPath_22 (by decide) ?_
    refine vv_callSN hC dX3_readPath_23 md_X8_below lk_n_X3_60 lk_t_X8_below (As := [.int 2]) (rest := [.ref a_rd]) (c_X8_below g w1 2) rfl rfl (Nat.le_of_ble_eq_true rfl) ⟨by decide, by decide, by decide, by decide⟩ (fun r w9 hq => ?_)
    obtain ⟨rfl, rfl⟩ := hq
    show V g X 2 w1 0 0 26 [(0, .ref a_rd)] [.int (f_X8_below 2), .ref a_rd]
    refine vv_callV hC dX3_readPath_26 md_X3_figure lk_m_X3_63 lk_i_X3_figure lk_s_X3_figure h_rd rfl (As := [.int (f_X8_below 2)]) (rest := []) (c_X3_figure g w1 a_rd a_text a_village a_bytes ((f_X3_readEnds rd_place rd_endA rd_endB text_length bytes (gVi_paths village) (gVi_houses village)).2.1) ((f_X3_readEnds rd_place rd_endA rd_endB text_length bytes (gVi_paths village) (gVi_houses village)).2.2.1) ((f_X3_readEnds rd_place rd_endA rd_endB text_length bytes (gVi_paths village) (gVi_houses village)).2.2.2) text_length bytes (f_X8_below 2) h_rd h_text h_bytes) rfl rfl (Nat.le_of_ble_eq_true rfl) ⟨by decide, by decide, by decide, by decide⟩ (fun r w9 hq => ?_)
    obtain ⟨rfl, t1, hs⟩ := hq
    obtain ⟨w4, rfl⟩ : ∃ z, z = w9 := ⟨_, rfl⟩
    have h_village := hs _ _ (fw_oo h_village h_rd (by decide)) h_village
    have h_text := hs _ _ (fw_oo h_text h_rd (by decide)) h_text
    have h_bytes := hs _ _ (fw_ao h_bytes h_rd) h_bytes
    have h_rd := t1
    have hE := hE.trans (hs.mono (fun _ z => (Or.inl z)))
    show V g X 2 w4 0 0 29 [(0, .ref a_rd)] [.int ((f_X3_figure ((f_X3_readEnds rd_place rd_endA rd_endB text_length bytes (gVi_paths village) (gVi_houses village)).2.1) text_length bytes (f_X8_below 2)).1)]
    refine vv_goto hC 34 dX3_readPath_29 (by decide) ?_
    have hz := hJ3 w4
    try simp only [f_X3_readPath_x1, f_X3_readPath_x2, if_pos c2] at hz
    first | exact hz h_rd h_village h_text h_bytes hE | (simp only [f_X3_readPath_x1, f_X3_readPath_x2, if_pos c2]; exact hz h_rd h_village h_text h_bytes hE)
def f_X3_readPerson_x1 (rd_place : Int32) (village : TVi) (text_length : Nat) (bytes : Nat → Int32) : Int32 := (if 0 ≤ (f_X3_figure (rd_place + 1) text_length bytes (f_X8_below (nI (gVi_houses village)))).1 then (f_X3_figure ((f_X3_figure (rd_place + 1) text_length bytes (f_X8_below (nI (gVi_houses village)))).2) text_length bytes (f_X8_below 2)).2 else (f_X3_figure (rd_place + 1) text_length bytes (f_X8_below (nI (gVi_houses village)))).2)
def f_X3_readPerson_x2 (rd_place : Int32) (village : TVi) (text_length : Nat) (bytes : Nat → Int32) : Bool := (if (if 0 ≤ (f_X3_figure (rd_place + 1) text_length bytes (f_X8_below (nI (gVi_houses village)))).1 then (f_X3_figure ((f_X3_figure (rd_place + 1) text_length bytes (f_X8_below (nI (gVi_houses village)))).2) text_length bytes (f_X8_below 2)).1 else (-9 : Int32)) = 1 then true else false)
def f_X3_readPerson (rd_place : Int32) (village : TVi) (text_length : Nat) (bytes : Nat → Int32) : Bool × Int32 × TVi := (if 6 ≤ gVi_people village then (false, rd_place, village) else (if gVi_houses village = 0 then (false, rd_place, village) else (if 0 ≤ (if 0 ≤ (f_X3_figure (rd_place + 1) text_length bytes (f_X8_below (nI (gVi_houses village)))).1 then (f_X3_figure ((f_X3_figure (rd_place + 1) text_length bytes (f_X8_below (nI (gVi_houses village)))).2) text_length bytes (f_X8_below 2)).1 else (-9 : Int32)) then (true, (f_X3_readPerson_x1 rd_place village text_length bytes), (f_X7_addPerson village ((f_X3_figure (rd_place + 1) text_length bytes (f_X8_below (nI (gVi_houses village)))).1) (f_X3_readPerson_x2 rd_place village text_length bytes))) else (false, (f_X3_readPerson_x1 rd_place village text_length bytes), village))))
set_option maxHeartbeats 4000000 in
set_option maxRecDepth 100000 in
theorem c_X3_readPerson (g : GT) (w0 : Wd) (a_rd : Nat) (a_text : Nat) (a_village : Nat) (a_bytes : Nat) (rd_place : Int32) (rd_endA : Int32) (rd_endB : Int32) (village : TVi) (text_length : Nat) (bytes : Nat → Int32) (hvh : gVi_houses village ≤ 4) (hvp : gVi_people village ≤ 6) (h_rd : w0 a_rd = some (.inr (3, cRd a_text a_village (rd_place, rd_endA, rd_endB)))) (h_village : w0 a_village = some (.inr (7, cVi village))) (h_text : w0 a_text = some (.inr (6, cTx a_bytes text_length))) (h_bytes : w0 a_bytes = some (.inl (g.2.2.1 2, 96, .inl bytes))) : CT g yX3_readPerson cX3_readPerson 3 (some .boolean) 2 45 0 0 w0 [.ref a_rd] (fun r w2 => r = some (.int (bI ((f_X3_readPerson rd_place village text_length bytes).1))) ∧ w2 a_rd = some (.inr (3, cRd a_text a_village ((f_X3_readPerson rd_place village text_length bytes).2.1, rd_endA, rd_endB))) ∧ w2 a_village = some (.inr (7, cVi ((f_X3_readPerson rd_place village text_length bytes).2.2))) ∧ wE (fun q => q = a_rd ∨ q = a_village) w0 w2) := by
  refine CT.of (own := RX3) (by decide +kernel) rfl (Nat.le_of_ble_eq_true rfl) (fun X hC hR hI => ?_)
  show V g X 3 w0 0 0 0 [(0, .ref a_rd)] []
  have hE : wE (fun q => q = a_rd ∨ q = a_village) w0 w0 := wE.refl
  refine vv_aload_n hC 0 dX3_readPerson_0 rfl rfl ?_
  refine vv_get (v := .ref a_village) hC fl_X3_12 dX3_readPerson_1 h_rd rfl ?_
  refine vv_getN (v := .int (nI (gVi_people village))) hC fl_X3_82 dX3_readPerson_4 h_village rfl ?_
  refine vv_bipush (v := (6)) hC dX3_readPerson_7 (by decide) ?_
  refine vv_icmp_ge hC 22 dX3_readPerson_9 (by decide) (fun c1 => ?_) (fun c1 => ?_)
  · have c1 : 6 ≤ gVi_people village := (nI_le_ (a := 6) (b := gVi_people village) (by omega) (by omega)).mp c1
    refine vv_iconst (v := 0) hC dX3_readPerson_22 (by decide) ?_
    have hf : (f_X3_readPerson rd_place village text_length bytes) = (false, rd_place, village) := by first | (simp only [f_X3_readPerson, if_pos c1]; done) | rfl | (simp only [f_X3_readPerson, if_pos c1]; rfl)
    refine vv_zret hC hR rfl (by decide) dX3_readPerson_23 (by omega) (by omega) ?_
    rw [hf]
    try dsimp only
    exact ⟨rfl, h_rd, h_village, hE⟩
  · have c1 : ¬ (6 ≤ gVi_people village) := fun z => c1 ((nI_le_ (a := 6) (b := gVi_people village) (by omega) (by omega)).mpr z)
    refine vv_aload_n hC 0 dX3_readPerson_12 rfl rfl ?_
    refine vv_get (v := .ref a_village) hC fl_X3_12 dX3_readPerson_13 h_rd rfl ?_
    refine vv_getN (v := .int (nI (gVi_houses village))) hC fl_X3_57 dX3_readPerson_16 h_village rfl ?_
    refine vv_if_ne hC 24 dX3_readPerson_19 (by decide) (fun c2 => ?_) (fun c2 => ?_)
    · have c2 : ¬ (gVi_houses village = 0) := fun z => c2 ((nI_eq_ (a := gVi_houses village) (b := 0) (by omega) (by omega)).mpr z)
      refine vv_aload_n hC 0 dX3_readPerson_24 rfl rfl ?_
      refine vv_dup hC dX3_readPerson_25 rfl ?_
      refine vv_get (v := .int rd_place) hC fl_X3_18 dX3_readPerson_26 h_rd rfl ?_
      refine vv_iconst (v := 1) hC dX3_readPerson_29 (by decide) ?_
      refine vv_iadd hC dX3_readPerson_30 ?_
      refine vv_put hC fp_X3_18 dX3_readPerson_31 h_rd rfl rfl (Nat.le_of_ble_eq_true rfl) (fun w3 t1 hs => ?_)
      have t1 : w3 a_rd = some (.inr (3, cRd a_text a_village ((rd_place + 1), rd_endA, rd_endB))) := t1.trans (congrArg (fun z => some (Sum.inr (3, z))) (eRd_place _ _ _ _ _ _))
      have h_village := hs _ _ (fw_oo h_village h_rd (by decide)) h_village
      have h_text := hs _ _ (fw_oo h_text h_rd (by decide)) h_text
      have h_bytes := hs _ _ (fw_ao h_bytes h_rd) h_bytes
      have h_rd := t1
      have hE := hE.trans (hs.mono (fun _ z => (Or.inl z)))
      refine vv_aload_n hC 0 dX3_readPerson_34 rfl rfl ?_
      refine vv_aload_n hC 0 dX3_readPerson_35 rfl rfl ?_
      refine vv_get (v := .ref a_village) hC fl_X3_12 dX3_readPerson_36 h_rd rfl ?_
      refine vv_getN (v := .int (nI (gVi_houses village))) hC fl_X3_57 dX3_readPerson_39 h_village rfl ?_
      refine vv_callSN hC dX3_readPerson_42 md_X8_below lk_n_X3_60 lk_t_X8_below (As := [.int (nI (gVi_houses village))]) (rest := [.ref a_rd]) (c_X8_below g w3 (nI (gVi_houses village))) rfl rfl (Nat.le_of_ble_eq_true rfl) ⟨by decide, by decide, by decide, by decide⟩ (fun r w9 hq => ?_)
      obtain ⟨rfl, rfl⟩ := hq
      show V g X 3 w3 0 0 45 [(0, .ref a_rd)] [.int (f_X8_below (nI (gVi_houses village))), .ref a_rd]
      refine vv_callV hC dX3_readPerson_45 md_X3_figure lk_m_X3_63 lk_i_X3_figure lk_s_X3_figure h_rd rfl (As := [.int (f_X8_below (nI (gVi_houses village)))]) (rest := []) (c_X3_figure g w3 a_rd a_text a_village a_bytes (rd_place + 1) rd_endA rd_endB text_length bytes (f_X8_below (nI (gVi_houses village))) h_rd h_text h_bytes) rfl rfl (Nat.le_of_ble_eq_true rfl) ⟨by decide, by decide, by decide, by decide⟩ (fun r w9 hq => ?_)
      obtain ⟨rfl, t1, hs⟩ := hq
      obtain ⟨w4, rfl⟩ : ∃ z, z = w9 := ⟨_, rfl⟩
      have h_village := hs _ _ (fw_oo h_village h_rd (by decide)) h_village
      have h_text := hs _ _ (fw_oo h_text h_rd (by decide)) h_text
      have h_bytes := hs _ _ (fw_ao h_bytes h_rd) h_bytes
      have h_rd := t1
      have hE := hE.trans (hs.mono (fun _ z => (Or.inl z)))
      show V g X 3 w4 0 0 48 [(0, .ref a_rd)] [.int ((f_X3_figure (rd_place + 1) text_length bytes (f_X8_below (nI (gVi_houses village)))).1)]
      refine vv_istore_n (lv2 := [(1, .int ((f_X3_figure (rd_place + 1) text_length bytes (f_X8_below (nI (gVi_houses village)))).1)), (0, .ref a_rd)]) hC dX3_readPerson_48 rfl (by decide) rfl ?_
      refine vv_iload_n hC 0 dX3_readPerson_49 rfl rfl ?_
      have hJ6 : ∀ w8 : Wd, w8 a_rd = some (.inr (3, cRd a_text a_village ((f_X3_readPerson_x1 rd_place village text_length bytes), rd_endA, rd_endB))) → w8 a_village = some (.inr (7, cVi village)) → w8 a_text = some (.inr (6, cTx a_bytes text_length)) → w8 a_bytes = some (.inl (g.2.2.1 2, 96, .inl bytes)) → wE (fun q => q = a_rd ∨ q = a_village) w0 w8 → V g X 3 w8 0 0 66 [(0, .ref a_rd), (1, .int ((f_X3_figure (rd_place + 1) text_length bytes (f_X8_below (nI (gVi_houses village)))).1))] [.int (if 0 ≤ (f_X3_figure (rd_place + 1) text_length bytes (f_X8_below (nI (gVi_houses village)))).1 then (f_X3_figure ((f_X3_figure (rd_place + 1) text_length bytes (f_X8_below (nI (gVi_houses village)))).2) text_length bytes (f_X8_below 2)).1 else (-9 : Int32))] := by
        intro w8 h_rd h_village h_text h_bytes hE
        refine vv_istore_n (lv2 := [(2, .int (if 0 ≤ (f_X3_figure (rd_place + 1) text_length bytes (f_X8_below (nI (gVi_houses village)))).1 then (f_X3_figure ((f_X3_figure (rd_place + 1) text_length bytes (f_X8_below (nI (gVi_houses village)))).2) text_length bytes (f_X8_below 2)).1 else (-9 : Int32))), (0, .ref a_rd), (1, .int ((f_X3_figure (rd_place + 1) text_length bytes (f_X8_below (nI (gVi_houses village)))).1))]) hC dX3_readPerson_66 rfl (by decide) rfl ?_
        refine vv_iload_n hC 0 dX3_readPerson_67 rfl rfl ?_
        refine vv_if_ge hC 73 dX3_readPerson_68 (by decide) (fun c9 => ?_) (fun c9 => ?_)
        · have c9 : 0 ≤ (if 0 ≤ (f_X3_figure (rd_place + 1) text_length bytes (f_X8_below (nI (gVi_houses village)))).1 then (f_X3_figure ((f_X3_figure (rd_place + 1) text_length bytes (f_X8_below (nI (gVi_houses village)))).2) text_length bytes (f_X8_below 2)).1 else (-9 : Int32)) := c9
          refine vv_aload_n hC 1 dX3_readPerson_73 rfl rfl ?_
          refine vv_get (v := .ref a_village) hC fl_X3_12 dX3_readPerson_74 h_rd rfl ?_
          refine vv_iload_n hC 2 dX3_readPerson_77 rfl rfl ?_
          refine vv_iload_n hC 0 dX3_readPerson_78 rfl rfl ?_
          refine vv_iconst (v := 1) hC dX3_readPerson_79 (by decide) ?_
          have hJ11 : V g X 3 w8 0 0 88 [(0, .ref a_rd), (1, .int ((f_X3_figure (rd_place + 1) text_length bytes (f_X8_below (nI (gVi_houses village)))).1)), (2, .int (if 0 ≤ (f_X3_figure (rd_place + 1) text_length bytes (f_X8_below (nI (gVi_houses village)))).1 then (f_X3_figure ((f_X3_figure (rd_place + 1) text_length bytes (f_X8_below (nI (gVi_houses village)))).2) text_length bytes (f_X8_below 2)).1 else (-9 : Int32)))] [.int (bI (f_X3_readPerson_x2 rd_place village text_length bytes)), .int ((f_X3_figure (rd_place + 1) text_length bytes (f_X8_below (nI (gVi_houses village)))).1), .ref a_village] := by
            refine vv_callV hC dX3_readPerson_88 md_X7_addPerson lk_m_X3_85 lk_i_X7_addPerson lk_s_X7_addPerson h_village rfl (As := [.int ((f_X3_figure (rd_place + 1) text_length bytes (f_X8_below (nI (gVi_houses village)))).1), .int (bI (f_X3_readPerson_x2 rd_place village text_length bytes))]) (rest := []) (c_X7_addPerson g w8 a_village village ((f_X3_figure (rd_place + 1) text_length bytes (f_X8_below (nI (gVi_houses village)))).1) (f_X3_readPerson_x2 rd_place village text_length bytes) h_village) rfl rfl (Nat.le_of_ble_eq_true rfl) ⟨by decide, by decide, by decide, by decide⟩ (fun r w9 hq => ?_)
            obtain ⟨rfl, t1, hs⟩ := hq
            obtain ⟨w12, rfl⟩ : ∃ z, z = w9 := ⟨_, rfl⟩
            have h_rd := hs _ _ (fw_oo h_rd h_village (by decide)) h_rd
            have h_text := hs _ _ (fw_oo h_text h_village (by decide)) h_text
            have h_bytes := hs _ _ (fw_ao h_bytes h_village) h_bytes
            have h_village := t1
            have hE := hE.trans (hs.mono (fun _ z => (Or.inr z)))
            show V g X 3 w12 0 0 91 [(0, .ref a_rd), (1, .int ((f_X3_figure (rd_place + 1) text_length bytes (f_X8_below (nI (gVi_houses village)))).1)), (2, .int (if 0 ≤ (f_X3_figure (rd_place + 1) text_length bytes (f_X8_below (nI (gVi_houses village)))).1 then (f_X3_figure ((f_X3_figure (rd_place + 1) text_length bytes (f_X8_below (nI (gVi_houses village)))).2) text_length bytes (f_X8_below 2)).1 else (-9 : Int32)))] []
            refine vv_iconst (v := 1) hC dX3_readPerson_91 (by decide) ?_
            have hf : (f_X3_readPerson rd_place village text_length bytes) = (true, (f_X3_readPerson_x1 rd_place village text_length bytes), (f_X7_addPerson village ((f_X3_figure (rd_place + 1) text_length bytes (f_X8_below (nI (gVi_houses village)))).1) (f_X3_readPerson_x2 rd_place village text_length bytes))) := by first | (simp only [f_X3_readPerson, if_neg c1, if_neg c2, if_pos c9]; done) | rfl | (simp only [f_X3_readPerson, if_neg c1, if_neg c2, if_pos c9]; rfl)
            refine vv_zret hC hR rfl (by decide) dX3_readPerson_92 (by omega) (by omega) ?_
            rw [hf]
            try dsimp only
            exact ⟨rfl, h_rd, h_village, hE⟩
          refine vv_icmp_ne hC 87 dX3_readPerson_80 (by decide) (fun c10 => ?_) (fun c10 => ?_)
          · have c10 : ¬ ((if 0 ≤ (f_X3_figure (rd_place + 1) text_length bytes (f_X8_below (nI (gVi_houses village)))).1 then (f_X3_figure ((f_X3_figure (rd_place + 1) text_length bytes (f_X8_below (nI (gVi_houses village)))).2) text_length bytes (f_X8_below 2)).1 else (-9 : Int32)) = 1) := c10
            refine vv_iconst (v := 0) hC dX3_readPerson_87 (by decide) ?_
            refine vv_lv [1, 2, 0] rfl ?_
            have hz := hJ11
            try simp only [f_X3_readPerson_x2, if_neg c10] at hz
            first | exact hz | (simp only [f_X3_readPerson_x2, if_neg c10]; exact hz)
          · have c10 : (if 0 ≤ (f_X3_figure (rd_place + 1) text_length bytes (f_X8_below (nI (gVi_houses village)))).1 then (f_X3_figure ((f_X3_figure (rd_place + 1) text_length bytes (f_X8_below (nI (gVi_houses village)))).2) text_length bytes (f_X8_below 2)).1 else (-9 : Int32)) = 1 := c10
            refine vv_iconst (v := 1) hC dX3_readPerson_83 (by decide) ?_
            refine vv_goto hC 88 dX3_readPerson_84 (by decide) ?_
            refine vv_lv [1, 2, 0] rfl ?_
            have hz := hJ11
            try simp only [f_X3_readPerson_x2, if_pos c10] at hz
            first | exact hz | (simp only [f_X3_readPerson_x2, if_pos c10]; exact hz)
        · have c9 : ¬ (0 ≤ (if 0 ≤ (f_X3_figure (rd_place + 1) text_length bytes (f_X8_below (nI (gVi_houses village)))).1 then (f_X3_figure ((f_X3_figure (rd_place + 1) text_length bytes (f_X8_below (nI (gVi_houses village)))).2) text_length bytes (f_X8_below 2)).1 else (-9 : Int32))) := c9
          refine vv_iconst (v := 0) hC dX3_readPerson_71 (by decide) ?_
          have hf : (f_X3_readPerson rd_place village text_length bytes) = (false, (f_X3_readPerson_x1 rd_place village text_length bytes), village) := by first | (simp only [f_X3_readPerson, if_neg c1, if_neg c2, if_neg c9]; done) | rfl | (simp only [f_X3_readPerson, if_neg c1, if_neg c2, if_neg c9]; rfl)
          refine vv_zret hC hR rfl (by decide) dX3_readPerson_72 (by omega) (by omega) ?_
          rw [hf]
          try dsimp only
          exact ⟨rfl, h_rd, h_village, hE⟩
      refine vv_if_ge hC 58 dX3_readPerson_50 (by decide) (fun c5 => ?_) (fun c5 => ?_)
      · have c5 : 0 ≤ (f_X3_figure (rd_place + 1) text_length bytes (f_X8_below (nI (gVi_houses village)))).1 := c5
        refine vv_aload_n hC 1 dX3_readPerson_58 rfl rfl ?_
        refine vv_iconst (v := 2) hC dX3_readPerson_59 (by decide) ?_
        refine vv_callSN hC dX3_readPerson_60 md_X8_below lk_n_X3_60 lk_t_X8_below (As := [.int 2]) (rest := [.ref a_rd]) (c_X8_below g w4 2) rfl rfl (Nat.le_of_ble_eq_true rfl) ⟨by decide, by decide, by decide, by decide⟩ (fun r w9 hq => ?_)
        obtain ⟨rfl, rfl⟩ := hq
        show V g X 3 w4 0 0 63 [(1, .int ((f_X3_figure (rd_place + 1) text_length bytes (f_X8_below (nI (gVi_houses village)))).1)), (0, .ref a_rd)] [.int (f_X8_below 2), .ref a_rd]
        refine vv_callV hC dX3_readPerson_63 md_X3_figure lk_m_X3_63 lk_i_X3_figure lk_s_X3_figure h_rd rfl (As := [.int (f_X8_below 2)]) (rest := []) (c_X3_figure g w4 a_rd a_text a_village a_bytes ((f_X3_figure (rd_place + 1) text_length bytes (f_X8_below (nI (gVi_houses village)))).2) rd_endA rd_endB text_length bytes (f_X8_below 2) h_rd h_text h_bytes) rfl rfl (Nat.le_of_ble_eq_true rfl) ⟨by decide, by decide, by decide, by decide⟩ (fun r w9 hq => ?_)
        obtain ⟨rfl, t1, hs⟩ := hq
        obtain ⟨w7, rfl⟩ : ∃ z, z = w9 := ⟨_, rfl⟩
        have h_village := hs _ _ (fw_oo h_village h_rd (by decide)) h_village
        have h_text := hs _ _ (fw_oo h_text h_rd (by decide)) h_text
        have h_bytes := hs _ _ (fw_ao h_bytes h_rd) h_bytes
        have h_rd := t1
        have hE := hE.trans (hs.mono (fun _ z => (Or.inl z)))
        show V g X 3 w7 0 0 66 [(1, .int ((f_X3_figure (rd_place + 1) text_length bytes (f_X8_below (nI (gVi_houses village)))).1)), (0, .ref a_rd)] [.int ((f_X3_figure ((f_X3_figure (rd_place + 1) text_length bytes (f_X8_below (nI (gVi_houses village)))).2) text_length bytes (f_X8_below 2)).1)]
        refine vv_lv [1, 0] rfl ?_
        have hz := hJ6 w7
        try simp only [f_X3_readPerson_x1, if_pos c5] at hz
        first | exact hz h_rd h_village h_text h_bytes hE | (simp only [f_X3_readPerson_x1, if_pos c5]; exact hz h_rd h_village h_text h_bytes hE)
      · have c5 : ¬ (0 ≤ (f_X3_figure (rd_place + 1) text_length bytes (f_X8_below (nI (gVi_houses village)))).1) := c5
        refine vv_bipush (v := (-9)) hC dX3_readPerson_53 (by decide) ?_
        refine vv_goto hC 66 dX3_readPerson_55 (by decide) ?_
        refine vv_lv [1, 0] rfl ?_
        have hz := hJ6 w4
        try simp only [f_X3_readPerson_x1, if_neg c5] at hz
        first | exact hz h_rd h_village h_text h_bytes hE | (simp only [f_X3_readPerson_x1, if_neg c5]; exact hz h_rd h_village h_text h_bytes hE)
    · have c2 : gVi_houses village = 0 := (nI_eq_ (a := gVi_houses village) (b := 0) (by omega) (by omega)).mp c2
      refine vv_iconst (v := 0) hC dX3_readPerson_22 (by decide) ?_
      have hf : (f_X3_readPerson rd_place village text_length bytes) = (false, rd_place, village) := by first | (simp only [f_X3_readPerson, if_neg c1, if_pos c2]; done) | rfl | (simp only [f_X3_readPerson, if_neg c1, if_pos c2]; rfl)
      refine vv_zret hC hR rfl (by decide) dX3_readPerson_23 (by omega) (by omega) ?_
      rw [hf]
      try dsimp only
      exact ⟨rfl, h_rd, h_village, hE⟩
def f_X3_readKin (rd_place : Int32) (rd_endA : Int32) (rd_endB : Int32) (village : TVi) (text_length : Nat) (bytes : Nat → Int32) : Bool × Int32 × Int32 × Int32 × TVi := (if (f_X3_readEnds rd_place rd_endA rd_endB text_length bytes (gVi_kin village) (gVi_people village)).1 = true then (true, (f_X3_readEnds rd_place rd_endA rd_endB text_length bytes (gVi_kin village) (gVi_people village)).2.1, (f_X3_readEnds rd_place rd_endA rd_endB text_length bytes (gVi_kin village) (gVi_people village)).2.2.1, (f_X3_readEnds rd_place rd_endA rd_endB text_length bytes (gVi_kin village) (gVi_people village)).2.2.2, (f_X7_addKin village ((f_X3_readEnds rd_place rd_endA rd_endB text_length bytes (gVi_kin village) (gVi_people village)).2.2.1) ((f_X3_readEnds rd_place rd_endA rd_endB text_length bytes (gVi_kin village) (gVi_people village)).2.2.2))) else (false, (f_X3_readEnds rd_place rd_endA rd_endB text_length bytes (gVi_kin village) (gVi_people village)).2.1, (f_X3_readEnds rd_place rd_endA rd_endB text_length bytes (gVi_kin village) (gVi_people village)).2.2.1, (f_X3_readEnds rd_place rd_endA rd_endB text_length bytes (gVi_kin village) (gVi_people village)).2.2.2, village))
set_option maxHeartbeats 4000000 in
set_option maxRecDepth 100000 in
theorem c_X3_readKin (g : GT) (w0 : Wd) (a_rd : Nat) (a_text : Nat) (a_village : Nat) (a_bytes : Nat) (rd_place : Int32) (rd_endA : Int32) (rd_endB : Int32) (village : TVi) (text_length : Nat) (bytes : Nat → Int32) (hvh : gVi_houses village ≤ 4) (hvp : gVi_people village ≤ 6) (h_rd : w0 a_rd = some (.inr (3, cRd a_text a_village (rd_place, rd_endA, rd_endB)))) (h_village : w0 a_village = some (.inr (7, cVi village))) (h_text : w0 a_text = some (.inr (6, cTx a_bytes text_length))) (h_bytes : w0 a_bytes = some (.inl (g.2.2.1 2, 96, .inl bytes))) : CT g yX3_readKin cX3_readKin 1 (some .boolean) 4 93 0 0 w0 [.ref a_rd] (fun r w2 => r = some (.int (bI ((f_X3_readKin rd_place rd_endA rd_endB village text_length bytes).1))) ∧ w2 a_rd = some (.inr (3, cRd a_text a_village ((f_X3_readKin rd_place rd_endA rd_endB village text_length bytes).2.1, (f_X3_readKin rd_place rd_endA rd_endB village text_length bytes).2.2.1, (f_X3_readKin rd_place rd_endA rd_endB village text_length bytes).2.2.2.1))) ∧ w2 a_village = some (.inr (7, cVi ((f_X3_readKin rd_place rd_endA rd_endB village text_length bytes).2.2.2.2))) ∧ wE (fun q => q = a_rd ∨ q = a_village) w0 w2) := by
  refine CT.of (own := RX3) (by decide +kernel) rfl (Nat.le_of_ble_eq_true rfl) (fun X hC hR hI => ?_)
  show V g X 1 w0 0 0 0 [(0, .ref a_rd)] []
  have hE : wE (fun q => q = a_rd ∨ q = a_village) w0 w0 := wE.refl
  refine vv_aload_n hC 0 dX3_readKin_0 rfl rfl ?_
  refine vv_aload_n hC 0 dX3_readKin_1 rfl rfl ?_
  refine vv_get (v := .ref a_village) hC fl_X3_12 dX3_readKin_2 h_rd rfl ?_
  refine vv_getN (v := .long (gVi_kin village)) hC fl_X3_89 dX3_readKin_5 h_village rfl ?_
  refine vv_aload_n hC 0 dX3_readKin_8 rfl rfl ?_
  refine vv_get (v := .ref a_village) hC fl_X3_12 dX3_readKin_9 h_rd rfl ?_
  refine vv_getN (v := .int (nI (gVi_people village))) hC fl_X3_82 dX3_readKin_12 h_village rfl ?_
  refine vv_callV hC dX3_readKin_15 md_X3_readEnds lk_m_X3_74 lk_i_X3_readEnds lk_s_X3_readEnds h_rd rfl (As := [.long (gVi_kin village), .int (nI (gVi_people village))]) (rest := []) (c_X3_readEnds g w0 a_rd a_text a_village a_bytes rd_place rd_endA rd_endB text_length bytes (gVi_kin village) (gVi_people village) (by omega) h_rd h_text h_bytes) rfl rfl (Nat.le_of_ble_eq_true rfl) ⟨by decide, by decide, by decide, by decide⟩ (fun r w9 hq => ?_)
  obtain ⟨rfl, t1, hs⟩ := hq
  obtain ⟨w1, rfl⟩ : ∃ z, z = w9 := ⟨_, rfl⟩
  have h_village := hs _ _ (fw_oo h_village h_rd (by decide)) h_village
  have h_text := hs _ _ (fw_oo h_text h_rd (by decide)) h_text
  have h_bytes := hs _ _ (fw_ao h_bytes h_rd) h_bytes
  have h_rd := t1
  have hE := hE.trans (hs.mono (fun _ z => (Or.inl z)))
  show V g X 1 w1 0 0 18 [(0, .ref a_rd)] [.int (bI ((f_X3_readEnds rd_place rd_endA rd_endB text_length bytes (gVi_kin village) (gVi_people village)).1))]
  refine vv_if_ne hC 23 dX3_readKin_18 (by decide) (fun c2 => ?_) (fun c2 => ?_)
  · have c2 : (f_X3_readEnds rd_place rd_endA rd_endB text_length bytes (gVi_kin village) (gVi_people village)).1 = true := bI_t c2
    refine vv_aload_n hC 0 dX3_readKin_23 rfl rfl ?_
    refine vv_get (v := .ref a_village) hC fl_X3_12 dX3_readKin_24 h_rd rfl ?_
    refine vv_aload_n hC 0 dX3_readKin_27 rfl rfl ?_
    refine vv_get (v := .int ((f_X3_readEnds rd_place rd_endA rd_endB text_length bytes (gVi_kin village) (gVi_people village)).2.2.1)) hC fl_X3_22 dX3_readKin_28 h_rd rfl ?_
    refine vv_aload_n hC 0 dX3_readKin_31 rfl rfl ?_
    refine vv_get (v := .int ((f_X3_readEnds rd_place rd_endA rd_endB text_length bytes (gVi_kin village) (gVi_people village)).2.2.2)) hC fl_X3_25 dX3_readKin_32 h_rd rfl ?_
    refine vv_callV hC dX3_readKin_35 md_X7_addKin lk_m_X3_92 lk_i_X7_addKin lk_s_X7_addKin h_village rfl (As := [.int ((f_X3_readEnds rd_place rd_endA rd_endB text_length bytes (gVi_kin village) (gVi_people village)).2.2.1), .int ((f_X3_readEnds rd_place rd_endA rd_endB text_length bytes (gVi_kin village) (gVi_people village)).2.2.2)]) (rest := []) (c_X7_addKin g w1 a_village village ((f_X3_readEnds rd_place rd_endA rd_endB text_length bytes (gVi_kin village) (gVi_people village)).2.2.1) ((f_X3_readEnds rd_place rd_endA rd_endB text_length bytes (gVi_kin village) (gVi_people village)).2.2.2) h_village) rfl rfl (Nat.le_of_ble_eq_true rfl) ⟨by decide, by decide, by decide, by decide⟩ (fun r w9 hq => ?_)
    obtain ⟨rfl, t1, hs⟩ := hq
    obtain ⟨w3, rfl⟩ : ∃ z, z = w9 := ⟨_, rfl⟩
    have h_rd := hs _ _ (fw_oo h_rd h_village (by decide)) h_rd
    have h_text := hs _ _ (fw_oo h_text h_village (by decide)) h_text
    have h_bytes := hs _ _ (fw_ao h_bytes h_village) h_bytes
    have h_village := t1
    have hE := hE.trans (hs.mono (fun _ z => (Or.inr z)))
    show V g X 1 w3 0 0 38 [(0, .ref a_rd)] []
    refine vv_iconst (v := 1) hC dX3_readKin_38 (by decide) ?_
    have hf : (f_X3_readKin rd_place rd_endA rd_endB village text_length bytes) = (true, (f_X3_readEnds rd_place rd_endA rd_endB text_length bytes (gVi_kin village) (gVi_people village)).2.1, (f_X3_readEnds rd_place rd_endA rd_endB text_length bytes (gVi_kin village) (gVi_people village)).2.2.1, (f_X3_readEnds rd_place rd_endA rd_endB text_length bytes (gVi_kin village) (gVi_people village)).2.2.2, (f_X7_addKin village ((f_X3_readEnds rd_place rd_endA rd_endB text_length bytes (gVi_kin village) (gVi_people village)).2.2.1) ((f_X3_readEnds rd_place rd_endA rd_endB text_length bytes (gVi_kin village) (gVi_people village)).2.2.2))) := by first | (simp only [f_X3_readKin, if_pos c2]; done) | rfl | (simp only [f_X3_readKin, if_pos c2]; rfl)
    refine vv_zret hC hR rfl (by decide) dX3_readKin_39 (by omega) (by omega) ?_
    rw [hf]
    try dsimp only
    exact ⟨rfl, h_rd, h_village, hE⟩
  · have c2 : ¬ ((f_X3_readEnds rd_place rd_endA rd_endB text_length bytes (gVi_kin village) (gVi_people village)).1 = true) := bI_f c2
    refine vv_iconst (v := 0) hC dX3_readKin_21 (by decide) ?_
    have hf : (f_X3_readKin rd_place rd_endA rd_endB village text_length bytes) = (false, (f_X3_readEnds rd_place rd_endA rd_endB text_length bytes (gVi_kin village) (gVi_people village)).2.1, (f_X3_readEnds rd_place rd_endA rd_endB text_length bytes (gVi_kin village) (gVi_people village)).2.2.1, (f_X3_readEnds rd_place rd_endA rd_endB text_length bytes (gVi_kin village) (gVi_people village)).2.2.2, village) := by first | (simp only [f_X3_readKin, if_neg c2]; done) | rfl | (simp only [f_X3_readKin, if_neg c2]; rfl)
    refine vv_zret hC hR rfl (by decide) dX3_readKin_22 (by omega) (by omega) ?_
    rw [hf]
    try dsimp only
    exact ⟨rfl, h_rd, h_village, hE⟩
