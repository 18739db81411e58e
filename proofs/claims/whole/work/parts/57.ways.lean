def f_X5_ways_6 (p3 : Int64) : Int64 := (if p3 = 0 then (1 : Int64) else (0 : Int64))
set_option maxHeartbeats 4000000 in
set_option maxRecDepth 100000 in
theorem c_X5_ways_6 (g : GT) (w0 : Wd) (a_ta : Nat) (a_fits : Nat) (a_left : Nat) (a_needs : Nat) (ta_people : Nat) (ta_away : Int32) (ta_unseenWays : Int64) (ta_seenHouses : Int64) (p1 : Int32) (p3 : Int64) (htp : ta_people ≤ 6) (h_ta : w0 a_ta = some (.inr (5, cTa a_fits a_left a_needs (ta_people, ta_away, ta_unseenWays, ta_seenHouses)))) : CT g yX5_ways cX5_ways 11 (some .long) 0 0 0 0 w0 [.ref a_ta, .int p1, .int 6, .long p3] (fun r w2 => r = some (.long (f_X5_ways_6 p3)) ∧ w0 = w2) := by
  refine CT.of (own := RX5) (by decide +kernel) rfl (Nat.le_of_ble_eq_true rfl) (fun X hC hR hI => ?_)
  show V g X 11 w0 0 0 0 [(0, .ref a_ta), (1, .int p1), (2, .int 6), (3, .long p3)] []
  refine vv_iload_n hC 2 dX5_ways_0 rfl rfl ?_
  refine vv_aload_n hC 0 dX5_ways_1 rfl rfl ?_
  refine vv_get (v := .int (nI ta_people)) hC fl_X5_22 dX5_ways_2 h_ta rfl ?_
  refine vv_icmp_ge hC 14 dX5_ways_5 (by decide) (fun c1 => ?_) (fun c1 => ?_)
  · have c1 : ta_people ≤ 6 := (nI_le_ (a := ta_people) (b := 6) (by omega) (by omega)).mp c1
    refine vv_lload_n hC 3 dX5_ways_14 rfl rfl ?_
    refine vv_lconst (v := 0) hC dX5_ways_15 (by decide) ?_
    refine vv_lcmp hC dX5_ways_16 ?_
    have hJ3 : V g X 11 w0 0 0 25 [(0, .ref a_ta), (1, .int p1), (2, .int 6), (3, .long p3)] [.long (if p3 = 0 then (1 : Int64) else (0 : Int64))] := by
      have hf : (f_X5_ways_6 p3) = (if p3 = 0 then (1 : Int64) else (0 : Int64)) := by first | (simp only [f_X5_ways_6, if_pos c1]; done) | rfl | (simp only [f_X5_ways_6, if_pos c1]; rfl)
      refine vv_lret hC hR rfl dX5_ways_25 (by omega) (by omega) ?_
      rw [hf]
      exact ⟨rfl, rfl⟩
    refine vv_if_ne hC 24 dX5_ways_17 (by decide) (fun c2 => ?_) (fun c2 => ?_)
    · have c2 : ¬ (p3 = 0) := lc_ne c2
      refine vv_lconst (v := 0) hC dX5_ways_24 (by decide) ?_
      have hz := hJ3
      try simp only [if_neg c2] at hz
      first | exact hz | (simp only [if_neg c2]; exact hz)
    · have c2 : p3 = 0 := lc_eq c2
      refine vv_lconst (v := 1) hC dX5_ways_20 (by decide) ?_
      refine vv_goto hC 25 dX5_ways_21 (by decide) ?_
      have hz := hJ3
      try simp only [if_pos c2] at hz
      first | exact hz | (simp only [if_pos c2]; exact hz)
  · have c1 : ¬ (ta_people ≤ 6) := fun z => c1 ((nI_le_ (a := ta_people) (b := 6) (by omega) (by omega)).mpr z)
    refine vv_iload_n hC 2 dX5_ways_8 rfl rfl ?_
    refine vv_bipush (v := (6)) hC dX5_ways_9 (by decide) ?_
    refine vv_icmp_lt hC 26 dX5_ways_11 (by decide) (fun c => absurd c (by decide)) (fun _ => ?_)
    refine vv_lload_n hC 3 dX5_ways_14 rfl rfl ?_
    refine vv_lconst (v := 0) hC dX5_ways_15 (by decide) ?_
    refine vv_lcmp hC dX5_ways_16 ?_
    have hJ5 : V g X 11 w0 0 0 25 [(0, .ref a_ta), (1, .int p1), (2, .int 6), (3, .long p3)] [.long (if p3 = 0 then (1 : Int64) else (0 : Int64))] := by
      have hf : (f_X5_ways_6 p3) = (if p3 = 0 then (1 : Int64) else (0 : Int64)) := by first | (simp only [f_X5_ways_6, if_neg c1]; done) | rfl | (simp only [f_X5_ways_6, if_neg c1]; rfl)
      refine vv_lret hC hR rfl dX5_ways_25 (by omega) (by omega) ?_
      rw [hf]
      exact ⟨rfl, rfl⟩
    refine vv_if_ne hC 24 dX5_ways_17 (by decide) (fun c4 => ?_) (fun c4 => ?_)
    · have c4 : ¬ (p3 = 0) := lc_ne c4
      refine vv_lconst (v := 0) hC dX5_ways_24 (by decide) ?_
      have hz := hJ5
      try simp only [if_neg c4] at hz
      first | exact hz | (simp only [if_neg c4]; exact hz)
    · have c4 : p3 = 0 := lc_eq c4
      refine vv_lconst (v := 1) hC dX5_ways_20 (by decide) ?_
      refine vv_goto hC 25 dX5_ways_21 (by decide) ?_
      have hz := hJ5
      try simp only [if_pos c4] at hz
      first | exact hz | (simp only [if_pos c4]; exact hz)
def f_X5_ways_5_L106 (ta_seenHouses : Int64) (p3 : Int64) : Nat → Nat → Int64 → Int64
  | 0, k106, l6_106 => l6_106
  | r106 + 1, k106, l6_106 => f_X5_ways_5_L106 ta_seenHouses p3 r106 (k106 + 1) (if f_X8_has (f_X8_cell ta_seenHouses 5) (nI k106) = true then (if f_X8_cell p3 (nI k106) ≤ 0 then l6_106 else (l6_106 + f_X5_ways_6 (f_X8_withCell p3 (nI k106) (f_X8_cell p3 (nI k106) - 1)))) else l6_106)
def f_X5_ways_5 (ta_people : Nat) (ta_away : Int32) (ta_unseenWays : Int64) (ta_seenHouses : Int64) (p1 : Int32) (p3 : Int64) : Int64 := (if ta_people ≤ 5 then (if p3 = 0 then (1 : Int64) else (0 : Int64)) else (if f_X8_has p1 5 = true then (f_X5_ways_5_L106 ta_seenHouses p3 4 0 (if f_X8_cell ta_unseenWays 5 = 0 then (0 : Int64) else ((f_X8_cell ta_unseenWays 5).toInt64 * f_X5_ways_6 p3))) else (if f_X8_has ta_away 5 = true then (0 : Int64) else f_X5_ways_6 p3)))
set_option maxHeartbeats 4000000 in
set_option maxRecDepth 100000 in
theorem c_X5_ways_5 (g : GT) (w0 : Wd) (a_ta : Nat) (a_fits : Nat) (a_left : Nat) (a_needs : Nat) (ta_people : Nat) (ta_away : Int32) (ta_unseenWays : Int64) (ta_seenHouses : Int64) (p1 : Int32) (p3 : Int64) (htp : ta_people ≤ 6) (h_ta : w0 a_ta = some (.inr (5, cTa a_fits a_left a_needs (ta_people, ta_away, ta_unseenWays, ta_seenHouses)))) : CT g yX5_ways cX5_ways 11 (some .long) 1 30 0 0 w0 [.ref a_ta, .int p1, .int 5, .long p3] (fun r w2 => r = some (.long (f_X5_ways_5 ta_people ta_away ta_unseenWays ta_seenHouses p1 p3)) ∧ w0 = w2) := by
  refine CT.of (own := RX5) (by decide +kernel) rfl (Nat.le_of_ble_eq_true rfl) (fun X hC hR hI => ?_)
  show V g X 11 w0 0 0 0 [(0, .ref a_ta), (1, .int p1), (2, .int 5), (3, .long p3)] []
  refine vv_iload_n hC 2 dX5_ways_0 rfl rfl ?_
  refine vv_aload_n hC 0 dX5_ways_1 rfl rfl ?_
  refine vv_get (v := .int (nI ta_people)) hC fl_X5_22 dX5_ways_2 h_ta rfl ?_
  refine vv_icmp_ge hC 14 dX5_ways_5 (by decide) (fun c1 => ?_) (fun c1 => ?_)
  · have c1 : ta_people ≤ 5 := (nI_le_ (a := ta_people) (b := 5) (by omega) (by omega)).mp c1
    refine vv_lload_n hC 3 dX5_ways_14 rfl rfl ?_
    refine vv_lconst (v := 0) hC dX5_ways_15 (by decide) ?_
    refine vv_lcmp hC dX5_ways_16 ?_
    have hJ3 : V g X 11 w0 0 0 25 [(0, .ref a_ta), (1, .int p1), (2, .int 5), (3, .long p3)] [.long (if p3 = 0 then (1 : Int64) else (0 : Int64))] := by
      have hf : (f_X5_ways_5 ta_people ta_away ta_unseenWays ta_seenHouses p1 p3) = (if p3 = 0 then (1 : Int64) else (0 : Int64)) := by first | (simp only [f_X5_ways_5, if_pos c1]; done) | rfl | (simp only [f_X5_ways_5, if_pos c1]; rfl)
      refine vv_lret hC hR rfl dX5_ways_25 (by omega) (by omega) ?_
      rw [hf]
      exact ⟨rfl, rfl⟩
    refine vv_if_ne hC 24 dX5_ways_17 (by decide) (fun c2 => ?_) (fun c2 => ?_)
    · have c2 : ¬ (p3 = 0) := lc_ne c2
      refine vv_lconst (v := 0) hC dX5_ways_24 (by decide) ?_
      have hz := hJ3
      try simp only [if_neg c2] at hz
      first | exact hz | (simp only [if_neg c2]; exact hz)
    · have c2 : p3 = 0 := lc_eq c2
      refine vv_lconst (v := 1) hC dX5_ways_20 (by decide) ?_
      refine vv_goto hC 25 dX5_ways_21 (by decide) ?_
      have hz := hJ3
      try simp only [if_pos c2] at hz
      first | exact hz | (simp only [if_pos c2]; exact hz)
  · have c1 : ¬ (ta_people ≤ 5) := fun z => c1 ((nI_le_ (a := ta_people) (b := 5) (by omega) (by omega)).mpr z)
    refine vv_iload_n hC 2 dX5_ways_8 rfl rfl ?_
    refine vv_bipush (v := (6)) hC dX5_ways_9 (by decide) ?_
    refine vv_icmp_lt hC 26 dX5_ways_11 (by decide) (fun _ => ?_) (fun c => absurd (by decide) c)
    refine vv_iload_n hC 1 dX5_ways_26 rfl rfl ?_
    refine vv_iload_n hC 2 dX5_ways_27 rfl rfl ?_
    refine vv_callSN hC dX5_ways_28 md_X8_has lk_n_X5_70 lk_t_X8_has (As := [.int p1, .int 5]) (rest := []) (c_X8_has g w0 p1 5) rfl rfl (Nat.le_of_ble_eq_true rfl) ⟨by decide, by decide, by decide, by decide⟩ (fun r w9 hq => ?_)
    obtain ⟨rfl, rfl⟩ := hq
    show V g X 11 w0 0 0 31 [(0, .ref a_ta), (1, .int p1), (2, .int 5), (3, .long p3)] [.int (bI (f_X8_has p1 5))]
    refine vv_if_ne hC 59 dX5_ways_31 (by decide) (fun c4 => ?_) (fun c4 => ?_)
    · have c4 : f_X8_has p1 5 = true := bI_t c4
      refine vv_aload_n hC 0 dX5_ways_59 rfl rfl ?_
      refine vv_get (v := .long ta_unseenWays) hC fl_X5_29 dX5_ways_60 h_ta rfl ?_
      refine vv_iload_n hC 2 dX5_ways_63 rfl rfl ?_
      refine vv_callSN hC dX5_ways_64 md_X8_cell lk_n_X5_83 lk_t_X8_cell (As := [.long ta_unseenWays, .int 5]) (rest := []) (c_X8_cell g w0 ta_unseenWays 5) rfl rfl (Nat.le_of_ble_eq_true rfl) ⟨by decide, by decide, by decide, by decide⟩ (fun r w9 hq => ?_)
      obtain ⟨rfl, rfl⟩ := hq
      show V g X 11 w0 0 0 67 [(0, .ref a_ta), (1, .int p1), (2, .int 5), (3, .long p3)] [.int (f_X8_cell ta_unseenWays 5)]
      refine vv_istore (lv2 := [(5, .int (f_X8_cell ta_unseenWays 5)), (0, .ref a_ta), (1, .int p1), (2, .int 5), (3, .long p3)]) hC dX5_ways_67 (by decide) rfl ?_
      refine vv_iload hC 0 dX5_ways_69 rfl ?_
      have hJ6 : V g X 11 w0 0 0 91 [(0, .ref a_ta), (1, .int p1), (2, .int 5), (3, .long p3), (5, .int (f_X8_cell ta_unseenWays 5))] [.long (if f_X8_cell ta_unseenWays 5 = 0 then (0 : Int64) else ((f_X8_cell ta_unseenWays 5).toInt64 * f_X5_ways_6 p3))] := by
        refine vv_lstore (lv2 := [(6, .long (if f_X8_cell ta_unseenWays 5 = 0 then (0 : Int64) else ((f_X8_cell ta_unseenWays 5).toInt64 * f_X5_ways_6 p3))), (0, .ref a_ta), (1, .int p1), (2, .int 5), (3, .long p3), (5, .int (f_X8_cell ta_unseenWays 5))]) hC dX5_ways_91 (by decide) rfl ?_
        refine vv_aload_n hC 1 dX5_ways_93 rfl rfl ?_
        refine vv_get (v := .long ta_seenHouses) hC fl_X5_33 dX5_ways_94 h_ta rfl ?_
        refine vv_iload_n hC 3 dX5_ways_97 rfl rfl ?_
        refine vv_callSN hC dX5_ways_98 md_X8_cell lk_n_X5_83 lk_t_X8_cell (As := [.long ta_seenHouses, .int 5]) (rest := []) (c_X8_cell g w0 ta_seenHouses 5) rfl rfl (Nat.le_of_ble_eq_true rfl) ⟨by decide, by decide, by decide, by decide⟩ (fun r w9 hq => ?_)
        obtain ⟨rfl, rfl⟩ := hq
        show V g X 11 w0 0 0 101 [(6, .long (if f_X8_cell ta_unseenWays 5 = 0 then (0 : Int64) else ((f_X8_cell ta_unseenWays 5).toInt64 * f_X5_ways_6 p3))), (0, .ref a_ta), (1, .int p1), (2, .int 5), (3, .long p3), (5, .int (f_X8_cell ta_unseenWays 5))] [.int (f_X8_cell ta_seenHouses 5)]
        refine vv_istore (lv2 := [(8, .int (f_X8_cell ta_seenHouses 5)), (6, .long (if f_X8_cell ta_unseenWays 5 = 0 then (0 : Int64) else ((f_X8_cell ta_unseenWays 5).toInt64 * f_X5_ways_6 p3))), (0, .ref a_ta), (1, .int p1), (2, .int 5), (3, .long p3), (5, .int (f_X8_cell ta_unseenWays 5))]) hC dX5_ways_101 (by decide) rfl ?_
        refine vv_iconst (v := 0) hC dX5_ways_103 (by decide) ?_
        refine vv_istore (lv2 := [(9, .int 0), (8, .int (f_X8_cell ta_seenHouses 5)), (6, .long (if f_X8_cell ta_unseenWays 5 = 0 then (0 : Int64) else ((f_X8_cell ta_unseenWays 5).toInt64 * f_X5_ways_6 p3))), (0, .ref a_ta), (1, .int p1), (2, .int 5), (3, .long p3), (5, .int (f_X8_cell ta_unseenWays 5))]) hC dX5_ways_104 (by decide) rfl ?_
        have hL10 : ∀ (r106 k106 : Nat) (l6_106 : Int64) (out : Int64), k106 + r106 = 4 → out = f_X5_ways_5_L106 ta_seenHouses p3 r106 k106 l6_106 → V g X 11 w0 0 0 164 [(0, .ref a_ta), (1, .int p1), (2, .int 5), (3, .long p3), (5, .int (f_X8_cell ta_unseenWays 5)), (6, .long out), (8, .int (f_X8_cell ta_seenHouses 5))] [] → V g X 11 w0 0 0 106 [(0, .ref a_ta), (1, .int p1), (2, .int 5), (3, .long p3), (5, .int (f_X8_cell ta_unseenWays 5)), (6, .long l6_106), (8, .int (f_X8_cell ta_seenHouses 5)), (9, .int (nI k106))] [] := by
          intro r106
          induction r106 with
          | zero =>
            intro k106 l6_106 out hb ho hk
            refine vv_iload hC 7 dX5_ways_106 rfl ?_
            refine vv_iconst (v := 4) hC dX5_ways_108 (by decide) ?_
            refine vv_icmp_ge hC 164 dX5_ways_109 (by decide) (fun c => ?_) (fun c => False.elim (c ((nI_le_ (a := 4) (b := k106) (by omega) (by omega)).mpr (by omega))))
            refine vv_lv [0, 1, 2, 3, 4, 5, 6] rfl ?_
            have ho := ho.trans (by first | (simp only [f_X5_ways_5_L106]; done) | rfl | (simp only [f_X5_ways_5_L106]; rfl) : _ = l6_106)
            subst ho
            exact hk
          | succ r106 ih =>
            intro k106 l6_106 out hb ho hk
            refine vv_iload hC 7 dX5_ways_106 rfl ?_
            refine vv_iconst (v := 4) hC dX5_ways_108 (by decide) ?_
            refine vv_icmp_ge hC 164 dX5_ways_109 (by decide) (fun c => absurd ((nI_le_ (a := 4) (b := k106) (by omega) (by omega)).mp c) (by first | omega | decide)) (fun c => ?_)
            refine vv_lload_n hC 3 dX5_ways_112 rfl rfl ?_
            refine vv_iload hC 7 dX5_ways_113 rfl ?_
            refine vv_callSN hC dX5_ways_115 md_X8_cell lk_n_X5_83 lk_t_X8_cell (As := [.long p3, .int (nI k106)]) (rest := []) (c_X8_cell g w0 p3 (nI k106)) rfl rfl (Nat.le_of_ble_eq_true rfl) ⟨by decide, by decide, by decide, by decide⟩ (fun r w9 hq => ?_)
            obtain ⟨rfl, rfl⟩ := hq
            show V g X 11 w0 0 0 118 [(0, .ref a_ta), (1, .int p1), (2, .int 5), (3, .long p3), (5, .int (f_X8_cell ta_unseenWays 5)), (6, .long l6_106), (8, .int (f_X8_cell ta_seenHouses 5)), (9, .int (nI k106))] [.int (f_X8_cell p3 (nI k106))]
            refine vv_istore (lv2 := [(10, .int (f_X8_cell p3 (nI k106))), (0, .ref a_ta), (1, .int p1), (2, .int 5), (3, .long p3), (5, .int (f_X8_cell ta_unseenWays 5)), (6, .long l6_106), (8, .int (f_X8_cell ta_seenHouses 5)), (9, .int (nI k106))]) hC dX5_ways_118 (by decide) rfl ?_
            refine vv_iload hC 7 dX5_ways_120 rfl ?_
            refine vv_iload hC 8 dX5_ways_122 rfl ?_
            refine vv_callSN hC dX5_ways_124 md_X8_has lk_n_X5_70 lk_t_X8_has (As := [.int (f_X8_cell ta_seenHouses 5), .int (nI k106)]) (rest := []) (c_X8_has g w0 (f_X8_cell ta_seenHouses 5) (nI k106)) rfl rfl (Nat.le_of_ble_eq_true rfl) ⟨by decide, by decide, by decide, by decide⟩ (fun r w9 hq => ?_)
            obtain ⟨rfl, rfl⟩ := hq
            show V g X 11 w0 0 0 127 [(10, .int (f_X8_cell p3 (nI k106))), (0, .ref a_ta), (1, .int p1), (2, .int 5), (3, .long p3), (5, .int (f_X8_cell ta_unseenWays 5)), (6, .long l6_106), (8, .int (f_X8_cell ta_seenHouses 5)), (9, .int (nI k106))] [.int (bI (f_X8_has (f_X8_cell ta_seenHouses 5) (nI k106)))]
            have hJ8 : V g X 11 w0 0 0 158 [(0, .ref a_ta), (1, .int p1), (2, .int 5), (3, .long p3), (5, .int (f_X8_cell ta_unseenWays 5)), (6, .long (if f_X8_has (f_X8_cell ta_seenHouses 5) (nI k106) = true then (if f_X8_cell p3 (nI k106) ≤ 0 then l6_106 else (l6_106 + f_X5_ways_6 (f_X8_withCell p3 (nI k106) (f_X8_cell p3 (nI k106) - 1)))) else l6_106)), (8, .int (f_X8_cell ta_seenHouses 5)), (9, .int (nI k106)), (10, .int (f_X8_cell p3 (nI k106)))] [] := by
              refine vv_iinc (lv2 := [(9, .int (nI (k106 + 1))), (0, .ref a_ta), (1, .int p1), (2, .int 5), (3, .long p3), (5, .int (f_X8_cell ta_unseenWays 5)), (6, .long (if f_X8_has (f_X8_cell ta_seenHouses 5) (nI k106) = true then (if f_X8_cell p3 (nI k106) ≤ 0 then l6_106 else (l6_106 + f_X5_ways_6 (f_X8_withCell p3 (nI k106) (f_X8_cell p3 (nI k106) - 1)))) else l6_106)), (8, .int (f_X8_cell ta_seenHouses 5)), (10, .int (f_X8_cell p3 (nI k106)))]) hC 7 dX5_ways_158 rfl (nI_add k106 1) (by decide) rfl ?_
              refine vv_goto hC 106 dX5_ways_161 (by decide) ?_
              refine vv_lv [1, 2, 3, 4, 5, 6, 7, 0] rfl ?_
              exact ih (k106 + 1) (if f_X8_has (f_X8_cell ta_seenHouses 5) (nI k106) = true then (if f_X8_cell p3 (nI k106) ≤ 0 then l6_106 else (l6_106 + f_X5_ways_6 (f_X8_withCell p3 (nI k106) (f_X8_cell p3 (nI k106) - 1)))) else l6_106) out (by omega) (ho.trans (by first | (simp only [f_X5_ways_5_L106]; done) | rfl | (simp only [f_X5_ways_5_L106]; rfl))) hk
            refine vv_if_eq hC 158 dX5_ways_127 (by decide) (fun c7 => ?_) (fun c7 => ?_)
            · have c7 : ¬ (f_X8_has (f_X8_cell ta_seenHouses 5) (nI k106) = true) := bI_f c7
              refine vv_lv [1, 2, 3, 4, 5, 6, 7, 8, 0] rfl ?_
              have hz := hJ8
              try simp only [if_neg c7] at hz
              first | exact hz | (simp only [if_neg c7]; exact hz)
            · have c7 : f_X8_has (f_X8_cell ta_seenHouses 5) (nI k106) = true := bI_t c7
              refine vv_iload hC 0 dX5_ways_130 rfl ?_
              refine vv_if_le hC 158 dX5_ways_132 (by decide) (fun c9 => ?_) (fun c9 => ?_)
              · have c9 : f_X8_cell p3 (nI k106) ≤ 0 := c9
                refine vv_lv [1, 2, 3, 4, 5, 6, 7, 8, 0] rfl ?_
                have hz := hJ8
                try simp only [if_pos c7, if_pos c9] at hz
                first | exact hz | (simp only [if_pos c7, if_pos c9]; exact hz)
              · have c9 : ¬ (f_X8_cell p3 (nI k106) ≤ 0) := c9
                refine vv_lload hC 6 dX5_ways_135 rfl ?_
                refine vv_aload_n hC 1 dX5_ways_137 rfl rfl ?_
                refine vv_iload_n hC 2 dX5_ways_138 rfl rfl ?_
                refine vv_iload_n hC 3 dX5_ways_139 rfl rfl ?_
                refine vv_iconst (v := 1) hC dX5_ways_140 (by decide) ?_
                refine vv_iadd hC dX5_ways_141 ?_
                refine vv_topi (6) (by decide) ?_
                refine vv_lload_n hC 4 dX5_ways_142 rfl rfl ?_
                refine vv_iload hC 8 dX5_ways_143 rfl ?_
                refine vv_iload hC 0 dX5_ways_145 rfl ?_
                refine vv_iconst (v := 1) hC dX5_ways_147 (by decide) ?_
                refine vv_isub hC dX5_ways_148 ?_
                refine vv_callSN hC dX5_ways_149 md_X8_withCell lk_n_X5_89 lk_t_X8_withCell (As := [.long p3, .int (nI k106), .int (f_X8_cell p3 (nI k106) - 1)]) (rest := [.int 6, .int p1, .ref a_ta, .long l6_106]) (c_X8_withCell g w0 p3 (nI k106) (f_X8_cell p3 (nI k106) - 1)) rfl rfl (Nat.le_of_ble_eq_true rfl) ⟨by decide, by decide, by decide, by decide⟩ (fun r w9 hq => ?_)
                obtain ⟨rfl, rfl⟩ := hq
                show V g X 11 w0 0 0 152 [(10, .int (f_X8_cell p3 (nI k106))), (0, .ref a_ta), (1, .int p1), (2, .int 5), (3, .long p3), (5, .int (f_X8_cell ta_unseenWays 5)), (6, .long l6_106), (8, .int (f_X8_cell ta_seenHouses 5)), (9, .int (nI k106))] [.long (f_X8_withCell p3 (nI k106) (f_X8_cell p3 (nI k106) - 1)), .int 6, .int p1, .ref a_ta, .long l6_106]
                refine vv_callV hC dX5_ways_152 md_X5_ways lk_m_X5_53 lk_i_X5_ways lk_s_X5_ways h_ta rfl (As := [.int p1, .int 6, .long (f_X8_withCell p3 (nI k106) (f_X8_cell p3 (nI k106) - 1))]) (rest := [.long l6_106]) (c_X5_ways_6 g w0 a_ta a_fits a_left a_needs ta_people ta_away ta_unseenWays ta_seenHouses p1 (f_X8_withCell p3 (nI k106) (f_X8_cell p3 (nI k106) - 1)) (by omega) h_ta) rfl rfl (Nat.le_of_ble_eq_true rfl) ⟨by decide, by decide, by decide, by decide⟩ (fun r w9 hq => ?_)
                obtain ⟨rfl, rfl⟩ := hq
                show V g X 11 w0 0 0 155 [(10, .int (f_X8_cell p3 (nI k106))), (0, .ref a_ta), (1, .int p1), (2, .int 5), (3, .long p3), (5, .int (f_X8_cell ta_unseenWays 5)), (6, .long l6_106), (8, .int (f_X8_cell ta_seenHouses 5)), (9, .int (nI k106))] [.long (f_X5_ways_6 (f_X8_withCell p3 (nI k106) (f_X8_cell p3 (nI k106) - 1))), .long l6_106]
                refine vv_ladd hC dX5_ways_155 ?_
                refine vv_lstore (lv2 := [(6, .long (l6_106 + f_X5_ways_6 (f_X8_withCell p3 (nI k106) (f_X8_cell p3 (nI k106) - 1)))), (10, .int (f_X8_cell p3 (nI k106))), (0, .ref a_ta), (1, .int p1), (2, .int 5), (3, .long p3), (5, .int (f_X8_cell ta_unseenWays 5)), (8, .int (f_X8_cell ta_seenHouses 5)), (9, .int (nI k106))]) hC dX5_ways_156 (by decide) rfl ?_
                refine vv_lv [2, 3, 4, 5, 6, 0, 7, 8, 1] rfl ?_
                have hz := hJ8
                try simp only [if_pos c7, if_neg c9] at hz
                first | exact hz | (simp only [if_pos c7, if_neg c9]; exact hz)
        refine vv_lv [3, 4, 5, 6, 7, 2, 1, 0] rfl ?_
        refine hL10 4 0 (if f_X8_cell ta_unseenWays 5 = 0 then (0 : Int64) else ((f_X8_cell ta_unseenWays 5).toInt64 * f_X5_ways_6 p3)) (f_X5_ways_5_L106 ta_seenHouses p3 4 0 (if f_X8_cell ta_unseenWays 5 = 0 then (0 : Int64) else ((f_X8_cell ta_unseenWays 5).toInt64 * f_X5_ways_6 p3))) (by omega) rfl ?_
        refine vv_lload hC 5 dX5_ways_164 rfl ?_
        have hf : (f_X5_ways_5 ta_people ta_away ta_unseenWays ta_seenHouses p1 p3) = (f_X5_ways_5_L106 ta_seenHouses p3 4 0 (if f_X8_cell ta_unseenWays 5 = 0 then (0 : Int64) else ((f_X8_cell ta_unseenWays 5).toInt64 * f_X5_ways_6 p3))) := by first | (simp only [f_X5_ways_5, if_neg c1, if_pos c4]; done) | rfl | (simp only [f_X5_ways_5, if_neg c1, if_pos c4]; rfl)
        refine vv_lret hC hR rfl dX5_ways_166 (by omega) (by omega) ?_
        rw [hf]
        exact ⟨rfl, rfl⟩
      refine vv_if_ne hC 78 dX5_ways_71 (by decide) (fun c5 => ?_) (fun c5 => ?_)
      · have c5 : ¬ (f_X8_cell ta_unseenWays 5 = 0) := c5
        refine vv_iload hC 0 dX5_ways_78 rfl ?_
        refine vv_i2l hC dX5_ways_80 ?_
        refine vv_aload_n hC 1 dX5_ways_81 rfl rfl ?_
        refine vv_iload_n hC 2 dX5_ways_82 rfl rfl ?_
        refine vv_iload_n hC 3 dX5_ways_83 rfl rfl ?_
        refine vv_iconst (v := 1) hC dX5_ways_84 (by decide) ?_
        refine vv_iadd hC dX5_ways_85 ?_
        refine vv_topi (6) (by decide) ?_
        refine vv_lload_n hC 4 dX5_ways_86 rfl rfl ?_
        refine vv_callV hC dX5_ways_87 md_X5_ways lk_m_X5_53 lk_i_X5_ways lk_s_X5_ways h_ta rfl (As := [.int p1, .int 6, .long p3]) (rest := [.long ((f_X8_cell ta_unseenWays 5).toInt64)]) (c_X5_ways_6 g w0 a_ta a_fits a_left a_needs ta_people ta_away ta_unseenWays ta_seenHouses p1 p3 (by omega) h_ta) rfl rfl (Nat.le_of_ble_eq_true rfl) ⟨by decide, by decide, by decide, by decide⟩ (fun r w9 hq => ?_)
        obtain ⟨rfl, rfl⟩ := hq
        show V g X 11 w0 0 0 90 [(5, .int (f_X8_cell ta_unseenWays 5)), (0, .ref a_ta), (1, .int p1), (2, .int 5), (3, .long p3)] [.long (f_X5_ways_6 p3), .long ((f_X8_cell ta_unseenWays 5).toInt64)]
        refine vv_lmul hC dX5_ways_90 ?_
        refine vv_lv [1, 2, 3, 4, 0] rfl ?_
        have hz := hJ6
        try simp only [if_neg c5] at hz
        first | exact hz | (simp only [if_neg c5]; exact hz)
      · have c5 : f_X8_cell ta_unseenWays 5 = 0 := c5
        refine vv_lconst (v := 0) hC dX5_ways_74 (by decide) ?_
        refine vv_goto hC 91 dX5_ways_75 (by decide) ?_
        refine vv_lv [1, 2, 3, 4, 0] rfl ?_
        have hz := hJ6
        try simp only [if_pos c5] at hz
        first | exact hz | (simp only [if_pos c5]; exact hz)
    · have c4 : ¬ (f_X8_has p1 5 = true) := bI_f c4
      refine vv_aload_n hC 0 dX5_ways_34 rfl rfl ?_
      refine vv_get (v := .int ta_away) hC fl_X5_26 dX5_ways_35 h_ta rfl ?_
      refine vv_iload_n hC 2 dX5_ways_38 rfl rfl ?_
      refine vv_callSN hC dX5_ways_39 md_X8_has lk_n_X5_70 lk_t_X8_has (As := [.int ta_away, .int 5]) (rest := []) (c_X8_has g w0 ta_away 5) rfl rfl (Nat.le_of_ble_eq_true rfl) ⟨by decide, by decide, by decide, by decide⟩ (fun r w9 hq => ?_)
      obtain ⟨rfl, rfl⟩ := hq
      show V g X 11 w0 0 0 42 [(0, .ref a_ta), (1, .int p1), (2, .int 5), (3, .long p3)] [.int (bI (f_X8_has ta_away 5))]
      have hJ12 : V g X 11 w0 0 0 58 [(0, .ref a_ta), (1, .int p1), (2, .int 5), (3, .long p3)] [.long (if f_X8_has ta_away 5 = true then (0 : Int64) else f_X5_ways_6 p3)] := by
        have hf : (f_X5_ways_5 ta_people ta_away ta_unseenWays ta_seenHouses p1 p3) = (if f_X8_has ta_away 5 = true then (0 : Int64) else f_X5_ways_6 p3) := by first | (simp only [f_X5_ways_5, if_neg c1, if_neg c4]; done) | rfl | (simp only [f_X5_ways_5, if_neg c1, if_neg c4]; rfl)
        refine vv_lret hC hR rfl dX5_ways_58 (by omega) (by omega) ?_
        rw [hf]
        exact ⟨rfl, rfl⟩
      refine vv_if_eq hC 49 dX5_ways_42 (by decide) (fun c11 => ?_) (fun c11 => ?_)
      · have c11 : ¬ (f_X8_has ta_away 5 = true) := bI_f c11
        refine vv_aload_n hC 0 dX5_ways_49 rfl rfl ?_
        refine vv_iload_n hC 1 dX5_ways_50 rfl rfl ?_
        refine vv_iload_n hC 2 dX5_ways_51 rfl rfl ?_
        refine vv_iconst (v := 1) hC dX5_ways_52 (by decide) ?_
        refine vv_iadd hC dX5_ways_53 ?_
        refine vv_topi (6) (by decide) ?_
        refine vv_lload_n hC 3 dX5_ways_54 rfl rfl ?_
        refine vv_callV hC dX5_ways_55 md_X5_ways lk_m_X5_53 lk_i_X5_ways lk_s_X5_ways h_ta rfl (As := [.int p1, .int 6, .long p3]) (rest := []) (c_X5_ways_6 g w0 a_ta a_fits a_left a_needs ta_people ta_away ta_unseenWays ta_seenHouses p1 p3 (by omega) h_ta) rfl rfl (Nat.le_of_ble_eq_true rfl) ⟨by decide, by decide, by decide, by decide⟩ (fun r w9 hq => ?_)
        obtain ⟨rfl, rfl⟩ := hq
        show V g X 11 w0 0 0 58 [(0, .ref a_ta), (1, .int p1), (2, .int 5), (3, .long p3)] [.long (f_X5_ways_6 p3)]
        have hz := hJ12
        try simp only [if_neg c11] at hz
        first | exact hz | (simp only [if_neg c11]; exact hz)
      · have c11 : f_X8_has ta_away 5 = true := bI_t c11
        refine vv_lconst (v := 0) hC dX5_ways_45 (by decide) ?_
        refine vv_goto hC 58 dX5_ways_46 (by decide) ?_
        have hz := hJ12
        try simp only [if_pos c11] at hz
        first | exact hz | (simp only [if_pos c11]; exact hz)
def f_X5_ways_4_L106 (ta_people : Nat) (ta_away : Int32) (ta_unseenWays : Int64) (ta_seenHouses : Int64) (p1 : Int32) (p3 : Int64) : Nat → Nat → Int64 → Int64
  | 0, k106, l6_106 => l6_106
  | r106 + 1, k106, l6_106 => f_X5_ways_4_L106 ta_people ta_away ta_unseenWays ta_seenHouses p1 p3 r106 (k106 + 1) (if f_X8_has (f_X8_cell ta_seenHouses 4) (nI k106) = true then (if f_X8_cell p3 (nI k106) ≤ 0 then l6_106 else (l6_106 + f_X5_ways_5 ta_people ta_away ta_unseenWays ta_seenHouses p1 (f_X8_withCell p3 (nI k106) (f_X8_cell p3 (nI k106) - 1)))) else l6_106)
def f_X5_ways_4 (ta_people : Nat) (ta_away : Int32) (ta_unseenWays : Int64) (ta_seenHouses : Int64) (p1 : Int32) (p3 : Int64) : Int64 := (if ta_people ≤ 4 then (if p3 = 0 then (1 : Int64) else (0 : Int64)) else (if f_X8_has p1 4 = true then (f_X5_ways_4_L106 ta_people ta_away ta_unseenWays ta_seenHouses p1 p3 4 0 (if f_X8_cell ta_unseenWays 4 = 0 then (0 : Int64) else ((f_X8_cell ta_unseenWays 4).toInt64 * f_X5_ways_5 ta_people ta_away ta_unseenWays ta_seenHouses p1 p3))) else (if f_X8_has ta_away 4 = true then (0 : Int64) else f_X5_ways_5 ta_people ta_away ta_unseenWays ta_seenHouses p1 p3)))
set_option maxHeartbeats 4000000 in
set_option maxRecDepth 100000 in
theorem c_X5_ways_4 (g : GT) (w0 : Wd) (a_ta : Nat) (a_fits : Nat) (a_left : Nat) (a_needs : Nat) (ta_people : Nat) (ta_away : Int32) (ta_unseenWays : Int64) (ta_seenHouses : Int64) (p1 : Int32) (p3 : Int64) (htp : ta_people ≤ 6) (h_ta : w0 a_ta = some (.inr (5, cTa a_fits a_left a_needs (ta_people, ta_away, ta_unseenWays, ta_seenHouses)))) : CT g yX5_ways cX5_ways 11 (some .long) 2 60 0 0 w0 [.ref a_ta, .int p1, .int 4, .long p3] (fun r w2 => r = some (.long (f_X5_ways_4 ta_people ta_away ta_unseenWays ta_seenHouses p1 p3)) ∧ w0 = w2) := by
  refine CT.of (own := RX5) (by decide +kernel) rfl (Nat.le_of_ble_eq_true rfl) (fun X hC hR hI => ?_)
  show V g X 11 w0 0 0 0 [(0, .ref a_ta), (1, .int p1), (2, .int 4), (3, .long p3)] []
  refine vv_iload_n hC 2 dX5_ways_0 rfl rfl ?_
  refine vv_aload_n hC 0 dX5_ways_1 rfl rfl ?_
  refine vv_get (v := .int (nI ta_people)) hC fl_X5_22 dX5_ways_2 h_ta rfl ?_
  refine vv_icmp_ge hC 14 dX5_ways_5 (by decide) (fun c1 => ?_) (fun c1 => ?_)
  · have c1 : ta_people ≤ 4 := (nI_le_ (a := ta_people) (b := 4) (by omega) (by omega)).mp c1
    refine vv_lload_n hC 3 dX5_ways_14 rfl rfl ?_
    refine vv_lconst (v := 0) hC dX5_ways_15 (by decide) ?_
    refine vv_lcmp hC dX5_ways_16 ?_
    have hJ3 : V g X 11 w0 0 0 25 [(0, .ref a_ta), (1, .int p1), (2, .int 4), (3, .long p3)] [.long (if p3 = 0 then (1 : Int64) else (0 : Int64))] := by
      have hf : (f_X5_ways_4 ta_people ta_away ta_unseenWays ta_seenHouses p1 p3) = (if p3 = 0 then (1 : Int64) else (0 : Int64)) := by first | (simp only [f_X5_ways_4, if_pos c1]; done) | rfl | (simp only [f_X5_ways_4, if_pos c1]; rfl)
      refine vv_lret hC hR rfl dX5_ways_25 (by omega) (by omega) ?_
      rw [hf]
      exact ⟨rfl, rfl⟩
    refine vv_if_ne hC 24 dX5_ways_17 (by decide) (fun c2 => ?_) (fun c2 => ?_)
    · have c2 : ¬ (p3 = 0) := lc_ne c2
      refine vv_lconst (v := 0) hC dX5_ways_24 (by decide) ?_
      have hz := hJ3
      try simp only [if_neg c2] at hz
      first | exact hz | (simp only [if_neg c2]; exact hz)
    · have c2 : p3 = 0 := lc_eq c2
      refine vv_lconst (v := 1) hC dX5_ways_20 (by decide) ?_
      refine vv_goto hC 25 dX5_ways_21 (by decide) ?_
      have hz := hJ3
      try simp only [if_pos c2] at hz
      first | exact hz | (simp only [if_pos c2]; exact hz)
  · have c1 : ¬ (ta_people ≤ 4) := fun z => c1 ((nI_le_ (a := ta_people) (b := 4) (by omega) (by omega)).mpr z)
    refine vv_iload_n hC 2 dX5_ways_8 rfl rfl ?_
    refine vv_bipush (v := (6)) hC dX5_ways_9 (by decide) ?_
    refine vv_icmp_lt hC 26 dX5_ways_11 (by decide) (fun _ => ?_) (fun c => absurd (by decide) c)
    refine vv_iload_n hC 1 dX5_ways_26 rfl rfl ?_
    refine vv_iload_n hC 2 dX5_ways_27 rfl rfl ?_
    refine vv_callSN hC dX5_ways_28 md_X8_has lk_n_X5_70 lk_t_X8_has (As := [.int p1, .int 4]) (rest := []) (c_X8_has g w0 p1 4) rfl rfl (Nat.le_of_ble_eq_true rfl) ⟨by decide, by decide, by decide, by decide⟩ (fun r w9 hq => ?_)
    obtain ⟨rfl, rfl⟩ := hq
    show V g X 11 w0 0 0 31 [(0, .ref a_ta), (1, .int p1), (2, .int 4), (3, .long p3)] [.int (bI (f_X8_has p1 4))]
    refine vv_if_ne hC 59 dX5_ways_31 (by decide) (fun c4 => ?_) (fun c4 => ?_)
    · have c4 : f_X8_has p1 4 = true := bI_t c4
      refine vv_aload_n hC 0 dX5_ways_59 rfl rfl ?_
      refine vv_get (v := .long ta_unseenWays) hC fl_X5_29 dX5_ways_60 h_ta rfl ?_
      refine vv_iload_n hC 2 dX5_ways_63 rfl rfl ?_
      refine vv_callSN hC dX5_ways_64 md_X8_cell lk_n_X5_83 lk_t_X8_cell (As := [.long ta_unseenWays, .int 4]) (rest := []) (c_X8_cell g w0 ta_unseenWays 4) rfl rfl (Nat.le_of_ble_eq_true rfl) ⟨by decide, by decide, by decide, by decide⟩ (fun r w9 hq => ?_)
      obtain ⟨rfl, rfl⟩ := hq
      show V g X 11 w0 0 0 67 [(0, .ref a_ta), (1, .int p1), (2, .int 4), (3, .long p3)] [.int (f_X8_cell ta_unseenWays 4)]
      refine vv_istore (lv2 := [(5, .int (f_X8_cell ta_unseenWays 4)), (0, .ref a_ta), (1, .int p1), (2, .int 4), (3, .long p3)]) hC dX5_ways_67 (by decide) rfl ?_
      refine vv_iload hC 0 dX5_ways_69 rfl ?_
      have hJ6 : V g X 11 w0 0 0 91 [(0, .ref a_ta), (1, .int p1), (2, .int 4), (3, .long p3), (5, .int (f_X8_cell ta_unseenWays 4))] [.long (if f_X8_cell ta_unseenWays 4 = 0 then (0 : Int64) else ((f_X8_cell ta_unseenWays 4).toInt64 * f_X5_ways_5 ta_people ta_away ta_unseenWays ta_seenHouses p1 p3))] := by
        refine vv_lstore (lv2 := [(6, .long (if f_X8_cell ta_unseenWays 4 = 0 then (0 : Int64) else ((f_X8_cell ta_unseenWays 4).toInt64 * f_X5_ways_5 ta_people ta_away ta_unseenWays ta_seenHouses p1 p3))), (0, .ref a_ta), (1, .int p1), (2, .int 4), (3, .long p3), (5, .int (f_X8_cell ta_unseenWays 4))]) hC dX5_ways_91 (by decide) rfl ?_
        refine vv_aload_n hC 1 dX5_ways_93 rfl rfl ?_
        refine vv_get (v := .long ta_seenHouses) hC fl_X5_33 dX5_ways_94 h_ta rfl ?_
        refine vv_iload_n hC 3 dX5_ways_97 rfl rfl ?_
        refine vv_callSN hC dX5_ways_98 md_X8_cell lk_n_X5_83 lk_t_X8_cell (As := [.long ta_seenHouses, .int 4]) (rest := []) (c_X8_cell g w0 ta_seenHouses 4) rfl rfl (Nat.le_of_ble_eq_true rfl) ⟨by decide, by decide, by decide, by decide⟩ (fun r w9 hq => ?_)
        obtain ⟨rfl, rfl⟩ := hq
        show V g X 11 w0 0 0 101 [(6, .long (if f_X8_cell ta_unseenWays 4 = 0 then (0 : Int64) else ((f_X8_cell ta_unseenWays 4).toInt64 * f_X5_ways_5 ta_people ta_away ta_unseenWays ta_seenHouses p1 p3))), (0, .ref a_ta), (1, .int p1), (2, .int 4), (3, .long p3), (5, .int (f_X8_cell ta_unseenWays 4))] [.int (f_X8_cell ta_seenHouses 4)]
        refine vv_istore (lv2 := [(8, .int (f_X8_cell ta_seenHouses 4)), (6, .long (if f_X8_cell ta_unseenWays 4 = 0 then (0 : Int64) else ((f_X8_cell ta_unseenWays 4).toInt64 * f_X5_ways_5 ta_people ta_away ta_unseenWays ta_seenHouses p1 p3))), (0, .ref a_ta), (1, .int p1), (2, .int 4), (3, .long p3), (5, .int (f_X8_cell ta_unseenWays 4))]) hC dX5_ways_101 (by decide) rfl ?_
        refine vv_iconst (v := 0) hC dX5_ways_103 (by decide) ?_
        refine vv_istore (lv2 := [(9, .int 0), (8, .int (f_X8_cell ta_seenHouses 4)), (6, .long (if f_X8_cell ta_unseenWays 4 = 0 then (0 : Int64) else ((f_X8_cell ta_unseenWays 4).toInt64 * f_X5_ways_5 ta_people ta_away ta_unseenWays ta_seenHouses p1 p3))), (0, .ref a_ta), (1, .int p1), (2, .int 4), (3, .long p3), (5, .int (f_X8_cell ta_unseenWays 4))]) hC dX5_ways_104 (by decide) rfl ?_
        have hL10 : ∀ (r106 k106 : Nat) (l6_106 : Int64) (out : Int64), k106 + r106 = 4 → out = f_X5_ways_4_L106 ta_people ta_away ta_unseenWays ta_seenHouses p1 p3 r106 k106 l6_106 → V g X 11 w0 0 0 164 [(0, .ref a_ta), (1, .int p1), (2, .int 4), (3, .long p3), (5, .int (f_X8_cell ta_unseenWays 4)), (6, .long out), (8, .int (f_X8_cell ta_seenHouses 4))] [] → V g X 11 w0 0 0 106 [(0, .ref a_ta), (1, .int p1), (2, .int 4), (3, .long p3), (5, .int (f_X8_cell ta_unseenWays 4)), (6, .long l6_106), (8, .int (f_X8_cell ta_seenHouses 4)), (9, .int (nI k106))] [] := by
          intro r106
          induction r106 with
          | zero =>
            intro k106 l6_106 out hb ho hk
            refine vv_iload hC 7 dX5_ways_106 rfl ?_
            refine vv_iconst (v := 4) hC dX5_ways_108 (by decide) ?_
            refine vv_icmp_ge hC 164 dX5_ways_109 (by decide) (fun c => ?_) (fun c => False.elim (c ((nI_le_ (a := 4) (b := k106) (by omega) (by omega)).mpr (by omega))))
            refine vv_lv [0, 1, 2, 3, 4, 5, 6] rfl ?_
            have ho := ho.trans (by first | (simp only [f_X5_ways_4_L106]; done) | rfl | (simp only [f_X5_ways_4_L106]; rfl) : _ = l6_106)
            subst ho
            exact hk
          | succ r106 ih =>
            intro k106 l6_106 out hb ho hk
            refine vv_iload hC 7 dX5_ways_106 rfl ?_
            refine vv_iconst (v := 4) hC dX5_ways_108 (by decide) ?_
            refine vv_icmp_ge hC 164 dX5_ways_109 (by decide) (fun c => absurd ((nI_le_ (a := 4) (b := k106) (by omega) (by omega)).mp c) (by first | omega | decide)) (fun c => ?_)
            refine vv_lload_n hC 3 dX5_ways_112 rfl rfl ?_
            refine vv_iload hC 7 dX5_ways_113 rfl ?_
            refine vv_callSN hC dX5_ways_115 md_X8_cell lk_n_X5_83 lk_t_X8_cell (As := [.long p3, .int (nI k106)]) (rest := []) (c_X8_cell g w0 p3 (nI k106)) rfl rfl (Nat.le_of_ble_eq_true rfl) ⟨by decide, by decide, by decide, by decide⟩ (fun r w9 hq => ?_)
            obtain ⟨rfl, rfl⟩ := hq
            show V g X 11 w0 0 0 118 [(0, .ref a_ta), (1, .int p1), (2, .int 4), (3, .long p3), (5, .int (f_X8_cell ta_unseenWays 4)), (6, .long l6_106), (8, .int (f_X8_cell ta_seenHouses 4)), (9, .int (nI k106))] [.int (f_X8_cell p3 (nI k106))]
            refine vv_istore (lv2 := [(10, .int (f_X8_cell p3 (nI k106))), (0, .ref a_ta), (1, .int p1), (2, .int 4), (3, .long p3), (5, .int (f_X8_cell ta_unseenWays 4)), (6, .long l6_106), (8, .int (f_X8_cell ta_seenHouses 4)), (9, .int (nI k106))]) hC dX5_ways_118 (by decide) rfl ?_
            refine vv_iload hC 7 dX5_ways_120 rfl ?_
            refine vv_iload hC 8 dX5_ways_122 rfl ?_
            refine vv_callSN hC dX5_ways_124 md_X8_has lk_n_X5_70 lk_t_X8_has (As := [.int (f_X8_cell ta_seenHouses 4), .int (nI k106)]) (rest := []) (c_X8_has g w0 (f_X8_cell ta_seenHouses 4) (nI k106)) rfl rfl (Nat.le_of_ble_eq_true rfl) ⟨by decide, by decide, by decide, by decide⟩ (fun r w9 hq => ?_)
            obtain ⟨rfl, rfl⟩ := hq
            show V g X 11 w0 0 0 127 [(10, .int (f_X8_cell p3 (nI k106))), (0, .ref a_ta), (1, .int p1), (2, .int 4), (3, .long p3), (5, .int (f_X8_cell ta_unseenWays 4)), (6, .long l6_106), (8, .int (f_X8_cell ta_seenHouses 4)), (9, .int (nI k106))] [.int (bI (f_X8_has (f_X8_cell ta_seenHouses 4) (nI k106)))]
            have hJ8 : V g X 11 w0 0 0 158 [(0, .ref a_ta), (1, .int p1), (2, .int 4), (3, .long p3), (5, .int (f_X8_cell ta_unseenWays 4)), (6, .long (if f_X8_has (f_X8_cell ta_seenHouses 4) (nI k106) = true then (if f_X8_cell p3 (nI k106) ≤ 0 then l6_106 else (l6_106 + f_X5_ways_5 ta_people ta_away ta_unseenWays ta_seenHouses p1 (f_X8_withCell p3 (nI k106) (f_X8_cell p3 (nI k106) - 1)))) else l6_106)), (8, .int (f_X8_cell ta_seenHouses 4)), (9, .int (nI k106)), (10, .int (f_X8_cell p3 (nI k106)))] [] := by
              refine vv_iinc (lv2 := [(9, .int (nI (k106 + 1))), (0, .ref a_ta), (1, .int p1), (2, .int 4), (3, .long p3), (5, .int (f_X8_cell ta_unseenWays 4)), (6, .long (if f_X8_has (f_X8_cell ta_seenHouses 4) (nI k106) = true then (if f_X8_cell p3 (nI k106) ≤ 0 then l6_106 else (l6_106 + f_X5_ways_5 ta_people ta_away ta_unseenWays ta_seenHouses p1 (f_X8_withCell p3 (nI k106) (f_X8_cell p3 (nI k106) - 1)))) else l6_106)), (8, .int (f_X8_cell ta_seenHouses 4)), (10, .int (f_X8_cell p3 (nI k106)))]) hC 7 dX5_ways_158 rfl (nI_add k106 1) (by decide) rfl ?_
              refine vv_goto hC 106 dX5_ways_161 (by decide) ?_
              refine vv_lv [1, 2, 3, 4, 5, 6, 7, 0] rfl ?_
              exact ih (k106 + 1) (if f_X8_has (f_X8_cell ta_seenHouses 4) (nI k106) = true then (if f_X8_cell p3 (nI k106) ≤ 0 then l6_106 else (l6_106 + f_X5_ways_5 ta_people ta_away ta_unseenWays ta_seenHouses p1 (f_X8_withCell p3 (nI k106) (f_X8_cell p3 (nI k106) - 1)))) else l6_106) out (by omega) (ho.trans (by first | (simp only [f_X5_ways_4_L106]; done) | rfl | (simp only [f_X5_ways_4_L106]; rfl))) hk
            refine vv_if_eq hC 158 dX5_ways_127 (by decide) (fun c7 => ?_) (fun c7 => ?_)
            · have c7 : ¬ (f_X8_has (f_X8_cell ta_seenHouses 4) (nI k106) = true) := bI_f c7
              refine vv_lv [1, 2, 3, 4, 5, 6, 7, 8, 0] rfl ?_
              have hz := hJ8
              try simp only [if_neg c7] at hz
              first | exact hz | (simp only [if_neg c7]; exact hz)
            · have c7 : f_X8_has (f_X8_cell ta_seenHouses 4) (nI k106) = true := bI_t c7
              refine vv_iload hC 0 dX5_ways_130 rfl ?_
              refine vv_if_le hC 158 dX5_ways_132 (by decide) (fun c9 => ?_) (fun c9 => ?_)
              · have c9 : f_X8_cell p3 (nI k106) ≤ 0 := c9
                refine vv_lv [1, 2, 3, 4, 5, 6, 7, 8, 0] rfl ?_
                have hz := hJ8
                try simp only [if_pos c7, if_pos c9] at hz
                first | exact hz | (simp only [if_pos c7, if_pos c9]; exact hz)
              · have c9 : ¬ (f_X8_cell p3 (nI k106) ≤ 0) := c9
                refine vv_lload hC 6 dX5_ways_135 rfl ?_
                refine vv_aload_n hC 1 dX5_ways_137 rfl rfl ?_
                refine vv_iload_n hC 2 dX5_ways_138 rfl rfl ?_
                refine vv_iload_n hC 3 dX5_ways_139 rfl rfl ?_
                refine vv_iconst (v := 1) hC dX5_ways_140 (by decide) ?_
                refine vv_iadd hC dX5_ways_141 ?_
                refine vv_topi (5) (by decide) ?_
                refine vv_lload_n hC 4 dX5_ways_142 rfl rfl ?_
                refine vv_iload hC 8 dX5_ways_143 rfl ?_
                refine vv_iload hC 0 dX5_ways_145 rfl ?_
                refine vv_iconst (v := 1) hC dX5_ways_147 (by decide) ?_
                refine vv_isub hC dX5_ways_148 ?_
                refine vv_callSN hC dX5_ways_149 md_X8_withCell lk_n_X5_89 lk_t_X8_withCell (As := [.long p3, .int (nI k106), .int (f_X8_cell p3 (nI k106) - 1)]) (rest := [.int 5, .int p1, .ref a_ta, .long l6_106]) (c_X8_withCell g w0 p3 (nI k106) (f_X8_cell p3 (nI k106) - 1)) rfl rfl (Nat.le_of_ble_eq_true rfl) ⟨by decide, by decide, by decide, by decide⟩ (fun r w9 hq => ?_)
                obtain ⟨rfl, rfl⟩ := hq
                show V g X 11 w0 0 0 152 [(10, .int (f_X8_cell p3 (nI k106))), (0, .ref a_ta), (1, .int p1), (2, .int 4), (3, .long p3), (5, .int (f_X8_cell ta_unseenWays 4)), (6, .long l6_106), (8, .int (f_X8_cell ta_seenHouses 4)), (9, .int (nI k106))] [.long (f_X8_withCell p3 (nI k106) (f_X8_cell p3 (nI k106) - 1)), .int 5, .int p1, .ref a_ta, .long l6_106]
                refine vv_callV hC dX5_ways_152 md_X5_ways lk_m_X5_53 lk_i_X5_ways lk_s_X5_ways h_ta rfl (As := [.int p1, .int 5, .long (f_X8_withCell p3 (nI k106) (f_X8_cell p3 (nI k106) - 1))]) (rest := [.long l6_106]) (c_X5_ways_5 g w0 a_ta a_fits a_left a_needs ta_people ta_away ta_unseenWays ta_seenHouses p1 (f_X8_withCell p3 (nI k106) (f_X8_cell p3 (nI k106) - 1)) (by omega) h_ta) rfl rfl (Nat.le_of_ble_eq_true rfl) ⟨by decide, by decide, by decide, by decide⟩ (fun r w9 hq => ?_)
                obtain ⟨rfl, rfl⟩ := hq
                show V g X 11 w0 0 0 155 [(10, .int (f_X8_cell p3 (nI k106))), (0, .ref a_ta), (1, .int p1), (2, .int 4), (3, .long p3), (5, .int (f_X8_cell ta_unseenWays 4)), (6, .long l6_106), (8, .int (f_X8_cell ta_seenHouses 4)), (9, .int (nI k106))] [.long (f_X5_ways_5 ta_people ta_away ta_unseenWays ta_seenHouses p1 (f_X8_withCell p3 (nI k106) (f_X8_cell p3 (nI k106) - 1))), .long l6_106]
                refine vv_ladd hC dX5_ways_155 ?_
                refine vv_lstore (lv2 := [(6, .long (l6_106 + f_X5_ways_5 ta_people ta_away ta_unseenWays ta_seenHouses p1 (f_X8_withCell p3 (nI k106) (f_X8_cell p3 (nI k106) - 1)))), (10, .int (f_X8_cell p3 (nI k106))), (0, .ref a_ta), (1, .int p1), (2, .int 4), (3, .long p3), (5, .int (f_X8_cell ta_unseenWays 4)), (8, .int (f_X8_cell ta_seenHouses 4)), (9, .int (nI k106))]) hC dX5_ways_156 (by decide) rfl ?_
                refine vv_lv [2, 3, 4, 5, 6, 0, 7, 8, 1] rfl ?_
                have hz := hJ8
                try simp only [if_pos c7, if_neg c9] at hz
                first | exact hz | (simp only [if_pos c7, if_neg c9]; exact hz)
        refine vv_lv [3, 4, 5, 6, 7, 2, 1, 0] rfl ?_
        refine hL10 4 0 (if f_X8_cell ta_unseenWays 4 = 0 then (0 : Int64) else ((f_X8_cell ta_unseenWays 4).toInt64 * f_X5_ways_5 ta_people ta_away ta_unseenWays ta_seenHouses p1 p3)) (f_X5_ways_4_L106 ta_people ta_away ta_unseenWays ta_seenHouses p1 p3 4 0 (if f_X8_cell ta_unseenWays 4 = 0 then (0 : Int64) else ((f_X8_cell ta_unseenWays 4).toInt64 * f_X5_ways_5 ta_people ta_away ta_unseenWays ta_seenHouses p1 p3))) (by omega) rfl ?_
        refine vv_lload hC 5 dX5_ways_164 rfl ?_
        have hf : (f_X5_ways_4 ta_people ta_away ta_unseenWays ta_seenHouses p1 p3) = (f_X5_ways_4_L106 ta_people ta_away ta_unseenWays ta_seenHouses p1 p3 4 0 (if f_X8_cell ta_unseenWays 4 = 0 then (0 : Int64) else ((f_X8_cell ta_unseenWays 4).toInt64 * f_X5_ways_5 ta_people ta_away ta_unseenWays ta_seenHouses p1 p3))) := by first | (simp only [f_X5_ways_4, if_neg c1, if_pos c4]; done) | rfl | (simp only [f_X5_ways_4, if_neg c1, if_pos c4]; rfl)
        refine vv_lret hC hR rfl dX5_ways_166 (by omega) (by omega) ?_
        rw [hf]
        exact ⟨rfl, rfl⟩
      refine vv_if_ne hC 78 dX5_ways_71 (by decide) (fun c5 => ?_) (fun c5 => ?_)
      · have c5 : ¬ (f_X8_cell ta_unseenWays 4 = 0) := c5
        refine vv_iload hC 0 dX5_ways_78 rfl ?_
        refine vv_i2l hC dX5_ways_80 ?_
        refine vv_aload_n hC 1 dX5_ways_81 rfl rfl ?_
        refine vv_iload_n hC 2 dX5_ways_82 rfl rfl ?_
        refine vv_iload_n hC 3 dX5_ways_83 rfl rfl ?_
        refine vv_iconst (v := 1) hC dX5_ways_84 (by decide) ?_
        refine vv_iadd hC dX5_ways_85 ?_
        refine vv_topi (5) (by decide) ?_
        refine vv_lload_n hC 4 dX5_ways_86 rfl rfl ?_
        refine vv_callV hC dX5_ways_87 md_X5_ways lk_m_X5_53 lk_i_X5_ways lk_s_X5_ways h_ta rfl (As := [.int p1, .int 5, .long p3]) (rest := [.long ((f_X8_cell ta_unseenWays 4).toInt64)]) (c_X5_ways_5 g w0 a_ta a_fits a_left a_needs ta_people ta_away ta_unseenWays ta_seenHouses p1 p3 (by omega) h_ta) rfl rfl (Nat.le_of_ble_eq_true rfl) ⟨by decide, by decide, by decide, by decide⟩ (fun r w9 hq => ?_)
        obtain ⟨rfl, rfl⟩ := hq
        show V g X 11 w0 0 0 90 [(5, .int (f_X8_cell ta_unseenWays 4)), (0, .ref a_ta), (1, .int p1), (2, .int 4), (3, .long p3)] [.long (f_X5_ways_5 ta_people ta_away ta_unseenWays ta_seenHouses p1 p3), .long ((f_X8_cell ta_unseenWays 4).toInt64)]
        refine vv_lmul hC dX5_ways_90 ?_
        refine vv_lv [1, 2, 3, 4, 0] rfl ?_
        have hz := hJ6
        try simp only [if_neg c5] at hz
        first | exact hz | (simp only [if_neg c5]; exact hz)
      · have c5 : f_X8_cell ta_unseenWays 4 = 0 := c5
        refine vv_lconst (v := 0) hC dX5_ways_74 (by decide) ?_
        refine vv_goto hC 91 dX5_ways_75 (by decide) ?_
        refine vv_lv [1, 2, 3, 4, 0] rfl ?_
        have hz := hJ6
        try simp only [if_pos c5] at hz
        first | exact hz | (simp only [if_pos c5]; exact hz)
    · have c4 : ¬ (f_X8_has p1 4 = true) := bI_f c4
      refine vv_aload_n hC 0 dX5_ways_34 rfl rfl ?_
      refine vv_get (v := .int ta_away) hC fl_X5_26 dX5_ways_35 h_ta rfl ?_
      refine vv_iload_n hC 2 dX5_ways_38 rfl rfl ?_
      refine vv_callSN hC dX5_ways_39 md_X8_has lk_n_X5_70 lk_t_X8_has (As := [.int ta_away, .int 4]) (rest := []) (c_X8_has g w0 ta_away 4) rfl rfl (Nat.le_of_ble_eq_true rfl) ⟨by decide, by decide, by decide, by decide⟩ (fun r w9 hq => ?_)
      obtain ⟨rfl, rfl⟩ := hq
      show V g X 11 w0 0 0 42 [(0, .ref a_ta), (1, .int p1), (2, .int 4), (3, .long p3)] [.int (bI (f_X8_has ta_away 4))]
      have hJ12 : V g X 11 w0 0 0 58 [(0, .ref a_ta), (1, .int p1), (2, .int 4), (3, .long p3)] [.long (if f_X8_has ta_away 4 = true then (0 : Int64) else f_X5_ways_5 ta_people ta_away ta_unseenWays ta_seenHouses p1 p3)] := by
        have hf : (f_X5_ways_4 ta_people ta_away ta_unseenWays ta_seenHouses p1 p3) = (if f_X8_has ta_away 4 = true then (0 : Int64) else f_X5_ways_5 ta_people ta_away ta_unseenWays ta_seenHouses p1 p3) := by first | (simp only [f_X5_ways_4, if_neg c1, if_neg c4]; done) | rfl | (simp only [f_X5_ways_4, if_neg c1, if_neg c4]; rfl)
        refine vv_lret hC hR rfl dX5_ways_58 (by omega) (by omega) ?_
        rw [hf]
        exact ⟨rfl, rfl⟩
      refine vv_if_eq hC 49 dX5_ways_42 (by decide) (fun c11 => ?_) (fun c11 => ?_)
      · have c11 : ¬ (f_X8_has ta_away 4 = true) := bI_f c11
        refine vv_aload_n hC 0 dX5_ways_49 rfl rfl ?_
        refine vv_iload_n hC 1 dX5_ways_50 rfl rfl ?_
        refine vv_iload_n hC 2 dX5_ways_51 rfl rfl ?_
        refine vv_iconst (v := 1) hC dX5_ways_52 (by decide) ?_
        refine vv_iadd hC dX5_ways_53 ?_
        refine vv_topi (5) (by decide) ?_
        refine vv_lload_n hC 3 dX5_ways_54 rfl rfl ?_
        refine vv_callV hC dX5_ways_55 md_X5_ways lk_m_X5_53 lk_i_X5_ways lk_s_X5_ways h_ta rfl (As := [.int p1, .int 5, .long p3]) (rest := []) (c_X5_ways_5 g w0 a_ta a_fits a_left a_needs ta_people ta_away ta_unseenWays ta_seenHouses p1 p3 (by omega) h_ta) rfl rfl (Nat.le_of_ble_eq_true rfl) ⟨by decide, by decide, by decide, by decide⟩ (fun r w9 hq => ?_)
        obtain ⟨rfl, rfl⟩ := hq
        show V g X 11 w0 0 0 58 [(0, .ref a_ta), (1, .int p1), (2, .int 4), (3, .long p3)] [.long (f_X5_ways_5 ta_people ta_away ta_unseenWays ta_seenHouses p1 p3)]
        have hz := hJ12
        try simp only [if_neg c11] at hz
        first | exact hz | (simp only [if_neg c11]; exact hz)
      · have c11 : f_X8_has ta_away 4 = true := bI_t c11
        refine vv_lconst (v := 0) hC dX5_ways_45 (by decide) ?_
        refine vv_goto hC 58 dX5_ways_46 (by decide) ?_
        have hz := hJ12
        try simp only [if_pos c11] at hz
        first | exact hz | (simp only [if_pos c11]; exact hz)
def f_X5_ways_3_L106 (ta_people : Nat) (ta_away : Int32) (ta_unseenWays : Int64) (ta_seenHouses : Int64) (p1 : Int32) (p3 : Int64) : Nat → Nat → Int64 → Int64
  | 0, k106, l6_106 => l6_106
  | r106 + 1, k106, l6_106 => f_X5_ways_3_L106 ta_people ta_away ta_unseenWays ta_seenHouses p1 p3 r106 (k106 + 1) (if f_X8_has (f_X8_cell ta_seenHouses 3) (nI k106) = true then (if f_X8_cell p3 (nI k106) ≤ 0 then l6_106 else (l6_106 + f_X5_ways_4 ta_people ta_away ta_unseenWays ta_seenHouses p1 (f_X8_withCell p3 (nI k106) (f_X8_cell p3 (nI k106) - 1)))) else l6_106)
def f_X5_ways_3 (ta_people : Nat) (ta_away : Int32) (ta_unseenWays : Int64) (ta_seenHouses : Int64) (p1 : Int32) (p3 : Int64) : Int64 := (if ta_people ≤ 3 then (if p3 = 0 then (1 : Int64) else (0 : Int64)) else (if f_X8_has p1 3 = true then (f_X5_ways_3_L106 ta_people ta_away ta_unseenWays ta_seenHouses p1 p3 4 0 (if f_X8_cell ta_unseenWays 3 = 0 then (0 : Int64) else ((f_X8_cell ta_unseenWays 3).toInt64 * f_X5_ways_4 ta_people ta_away ta_unseenWays ta_seenHouses p1 p3))) else (if f_X8_has ta_away 3 = true then (0 : Int64) else f_X5_ways_4 ta_people ta_away ta_unseenWays ta_seenHouses p1 p3)))
set_option maxHeartbeats 4000000 in
set_option maxRecDepth 100000 in
theorem c_X5_ways_3 (g : GT) (w0 : Wd) (a_ta : Nat) (a_fits : Nat) (a_left : Nat) (a_needs : Nat) (ta_people : Nat) (ta_away : Int32) (ta_unseenWays : Int64) (ta_seenHouses : Int64) (p1 : Int32) (p3 : Int64) (htp : ta_people ≤ 6) (h_ta : w0 a_ta = some (.inr (5, cTa a_fits a_left a_needs (ta_people, ta_away, ta_unseenWays, ta_seenHouses)))) : CT g yX5_ways cX5_ways 11 (some .long) 3 90 0 0 w0 [.ref a_ta, .int p1, .int 3, .long p3] (fun r w2 => r = some (.long (f_X5_ways_3 ta_people ta_away ta_unseenWays ta_seenHouses p1 p3)) ∧ w0 = w2) := by
  refine CT.of (own := RX5) (by decide +kernel) rfl (Nat.le_of_ble_eq_true rfl) (fun X hC hR hI => ?_)
  show V g X 11 w0 0 0 0 [(0, .ref a_ta), (1, .int p1), (2, .int 3), (3, .long p3)] []
  refine vv_iload_n hC 2 dX5_ways_0 rfl rfl ?_
  refine vv_aload_n hC 0 dX5_ways_1 rfl rfl ?_
  refine vv_get (v := .int (nI ta_people)) hC fl_X5_22 dX5_ways_2 h_ta rfl ?_
  refine vv_icmp_ge hC 14 dX5_ways_5 (by decide) (fun c1 => ?_) (fun c1 => ?_)
  · have c1 : ta_people ≤ 3 := (nI_le_ (a := ta_people) (b := 3) (by omega) (by omega)).mp c1
    refine vv_lload_n hC 3 dX5_ways_14 rfl rfl ?_
    refine vv_lconst (v := 0) hC dX5_ways_15 (by decide) ?_
    refine vv_lcmp hC dX5_ways_16 ?_
    have hJ3 : V g X 11 w0 0 0 25 [(0, .ref a_ta), (1, .int p1), (2, .int 3), (3, .long p3)] [.long (if p3 = 0 then (1 : Int64) else (0 : Int64))] := by
      have hf : (f_X5_ways_3 ta_people ta_away ta_unseenWays ta_seenHouses p1 p3) = (if p3 = 0 then (1 : Int64) else (0 : Int64)) := by first | (simp only [f_X5_ways_3, if_pos c1]; done) | rfl | (simp only [f_X5_ways_3, if_pos c1]; rfl)
      refine vv_lret hC hR rfl dX5_ways_25 (by omega) (by omega) ?_
      rw [hf]
      exact ⟨rfl, rfl⟩
    refine vv_if_ne hC 24 dX5_ways_17 (by decide) (fun c2 => ?_) (fun c2 => ?_)
    · have c2 : ¬ (p3 = 0) := lc_ne c2
      refine vv_lconst (v := 0) hC dX5_ways_24 (by decide) ?_
      have hz := hJ3
      try simp only [if_neg c2] at hz
      first | exact hz | (simp only [if_neg c2]; exact hz)
    · have c2 : p3 = 0 := lc_eq c2
      refine vv_lconst (v := 1) hC dX5_ways_20 (by decide) ?_
      refine vv_goto hC 25 dX5_ways_21 (by decide) ?_
      have hz := hJ3
      try simp only [if_pos c2] at hz
      first | exact hz | (simp only [if_pos c2]; exact hz)
  · have c1 : ¬ (ta_people ≤ 3) := fun z => c1 ((nI_le_ (a := ta_people) (b := 3) (by omega) (by omega)).mpr z)
    refine vv_iload_n hC 2 dX5_ways_8 rfl rfl ?_
    refine vv_bipush (v := (6)) hC dX5_ways_9 (by decide) ?_
    refine vv_icmp_lt hC 26 dX5_ways_11 (by decide) (fun _ => ?_) (fun c => absurd (by decide) c)
    refine vv_iload_n hC 1 dX5_ways_26 rfl rfl ?_
    refine vv_iload_n hC 2 dX5_ways_27 rfl rfl ?_
    refine vv_callSN hC dX5_ways_28 md_X8_has lk_n_X5_70 lk_t_X8_has (As := [.int p1, .int 3]) (rest := []) (c_X8_has g w0 p1 3) rfl rfl (Nat.le_of_ble_eq_true rfl) ⟨by decide, by decide, by decide, by decide⟩ (fun r w9 hq => ?_)
    obtain ⟨rfl, rfl⟩ := hq
    show V g X 11 w0 0 0 31 [(0, .ref a_ta), (1, .int p1), (2, .int 3), (3, .long p3)] [.int (bI (f_X8_has p1 3))]
    refine vv_if_ne hC 59 dX5_ways_31 (by decide) (fun c4 => ?_) (fun c4 => ?_)
    · have c4 : f_X8_has p1 3 = true := bI_t c4
      refine vv_aload_n hC 0 dX5_ways_59 rfl rfl ?_
      refine vv_get (v := .long ta_unseenWays) hC fl_X5_29 dX5_ways_60 h_ta rfl ?_
      refine vv_iload_n hC 2 dX5_ways_63 rfl rfl ?_
      refine vv_callSN hC dX5_ways_64 md_X8_cell lk_n_X5_83 lk_t_X8_cell (As := [.long ta_unseenWays, .int 3]) (rest := []) (c_X8_cell g w0 ta_unseenWays 3) rfl rfl (Nat.le_of_ble_eq_true rfl) ⟨by decide, by decide, by decide, by decide⟩ (fun r w9 hq => ?_)
      obtain ⟨rfl, rfl⟩ := hq
      show V g X 11 w0 0 0 67 [(0, .ref a_ta), (1, .int p1), (2, .int 3), (3, .long p3)] [.int (f_X8_cell ta_unseenWays 3)]
      refine vv_istore (lv2 := [(5, .int (f_X8_cell ta_unseenWays 3)), (0, .ref a_ta), (1, .int p1), (2, .int 3), (3, .long p3)]) hC dX5_ways_67 (by decide) rfl ?_
      refine vv_iload hC 0 dX5_ways_69 rfl ?_
      have hJ6 : V g X 11 w0 0 0 91 [(0, .ref a_ta), (1, .int p1), (2, .int 3), (3, .long p3), (5, .int (f_X8_cell ta_unseenWays 3))] [.long (if f_X8_cell ta_unseenWays 3 = 0 then (0 : Int64) else ((f_X8_cell ta_unseenWays 3).toInt64 * f_X5_ways_4 ta_people ta_away ta_unseenWays ta_seenHouses p1 p3))] := by
        refine vv_lstore (lv2 := [(6, .long (if f_X8_cell ta_unseenWays 3 = 0 then (0 : Int64) else ((f_X8_cell ta_unseenWays 3).toInt64 * f_X5_ways_4 ta_people ta_away ta_unseenWays ta_seenHouses p1 p3))), (0, .ref a_ta), (1, .int p1), (2, .int 3), (3, .long p3), (5, .int (f_X8_cell ta_unseenWays 3))]) hC dX5_ways_91 (by decide) rfl ?_
        refine vv_aload_n hC 1 dX5_ways_93 rfl rfl ?_
        refine vv_get (v := .long ta_seenHouses) hC fl_X5_33 dX5_ways_94 h_ta rfl ?_
        refine vv_iload_n hC 3 dX5_ways_97 rfl rfl ?_
        refine vv_callSN hC dX5_ways_98 md_X8_cell lk_n_X5_83 lk_t_X8_cell (As := [.long ta_seenHouses, .int 3]) (rest := []) (c_X8_cell g w0 ta_seenHouses 3) rfl rfl (Nat.le_of_ble_eq_true rfl) ⟨by decide, by decide, by decide, by decide⟩ (fun r w9 hq => ?_)
        obtain ⟨rfl, rfl⟩ := hq
        show V g X 11 w0 0 0 101 [(6, .long (if f_X8_cell ta_unseenWays 3 = 0 then (0 : Int64) else ((f_X8_cell ta_unseenWays 3).toInt64 * f_X5_ways_4 ta_people ta_away ta_unseenWays ta_seenHouses p1 p3))), (0, .ref a_ta), (1, .int p1), (2, .int 3), (3, .long p3), (5, .int (f_X8_cell ta_unseenWays 3))] [.int (f_X8_cell ta_seenHouses 3)]
        refine vv_istore (lv2 := [(8, .int (f_X8_cell ta_seenHouses 3)), (6, .long (if f_X8_cell ta_unseenWays 3 = 0 then (0 : Int64) else ((f_X8_cell ta_unseenWays 3).toInt64 * f_X5_ways_4 ta_people ta_away ta_unseenWays ta_seenHouses p1 p3))), (0, .ref a_ta), (1, .int p1), (2, .int 3), (3, .long p3), (5, .int (f_X8_cell ta_unseenWays 3))]) hC dX5_ways_101 (by decide) rfl ?_
        refine vv_iconst (v := 0) hC dX5_ways_103 (by decide) ?_
        refine vv_istore (lv2 := [(9, .int 0), (8, .int (f_X8_cell ta_seenHouses 3)), (6, .long (if f_X8_cell ta_unseenWays 3 = 0 then (0 : Int64) else ((f_X8_cell ta_unseenWays 3).toInt64 * f_X5_ways_4 ta_people ta_away ta_unseenWays ta_seenHouses p1 p3))), (0, .ref a_ta), (1, .int p1), (2, .int 3), (3, .long p3), (5, .int (f_X8_cell ta_unseenWays 3))]) hC dX5_ways_104 (by decide) rfl ?_
        have hL10 : ∀ (r106 k106 : Nat) (l6_106 : Int64) (out : Int64), k106 + r106 = 4 → out = f_X5_ways_3_L106 ta_people ta_away ta_unseenWays ta_seenHouses p1 p3 r106 k106 l6_106 → V g X 11 w0 0 0 164 [(0, .ref a_ta), (1, .int p1), (2, .int 3), (3, .long p3), (5, .int (f_X8_cell ta_unseenWays 3)), (6, .long out), (8, .int (f_X8_cell ta_seenHouses 3))] [] → V g X 11 w0 0 0 106 [(0, .ref a_ta), (1, .int p1), (2, .int 3), (3, .long p3), (5, .int (f_X8_cell ta_unseenWays 3)), (6, .long l6_106), (8, .int (f_X8_cell ta_seenHouses 3)), (9, .int (nI k106))] [] := by
          intro r106
          induction r106 with
          | zero =>
            intro k106 l6_106 out hb ho hk
            refine vv_iload hC 7 dX5_ways_106 rfl ?_
            refine vv_iconst (v := 4) hC dX5_ways_108 (by decide) ?_
            refine vv_icmp_ge hC 164 dX5_ways_109 (by decide) (fun c => ?_) (fun c => False.elim (c ((nI_le_ (a := 4) (b := k106) (by omega) (by omega)).mpr (by omega))))
            refine vv_lv [0, 1, 2, 3, 4, 5, 6] rfl ?_
            have ho := ho.trans (by first | (simp only [f_X5_ways_3_L106]; done) | rfl | (simp only [f_X5_ways_3_L106]; rfl) : _ = l6_106)
            subst ho
            exact hk
          | succ r106 ih =>
            intro k106 l6_106 out hb ho hk
            refine vv_iload hC 7 dX5_ways_106 rfl ?_
            refine vv_iconst (v := 4) hC dX5_ways_108 (by decide) ?_
            refine vv_icmp_ge hC 164 dX5_ways_109 (by decide) (fun c => absurd ((nI_le_ (a := 4) (b := k106) (by omega) (by omega)).mp c) (by first | omega | decide)) (fun c => ?_)
            refine vv_lload_n hC 3 dX5_ways_112 rfl rfl ?_
            refine vv_iload hC 7 dX5_ways_113 rfl ?_
            refine vv_callSN hC dX5_ways_115 md_X8_cell lk_n_X5_83 lk_t_X8_cell (As := [.long p3, .int (nI k106)]) (rest := []) (c_X8_cell g w0 p3 (nI k106)) rfl rfl (Nat.le_of_ble_eq_true rfl) ⟨by decide, by decide, by decide, by decide⟩ (fun r w9 hq => ?_)
            obtain ⟨rfl, rfl⟩ := hq
            show V g X 11 w0 0 0 118 [(0, .ref a_ta), (1, .int p1), (2, .int 3), (3, .long p3), (5, .int (f_X8_cell ta_unseenWays 3)), (6, .long l6_106), (8, .int (f_X8_cell ta_seenHouses 3)), (9, .int (nI k106))] [.int (f_X8_cell p3 (nI k106))]
            refine vv_istore (lv2 := [(10, .int (f_X8_cell p3 (nI k106))), (0, .ref a_ta), (1, .int p1), (2, .int 3), (3, .long p3), (5, .int (f_X8_cell ta_unseenWays 3)), (6, .long l6_106), (8, .int (f_X8_cell ta_seenHouses 3)), (9, .int (nI k106))]) hC dX5_ways_118 (by decide) rfl ?_
            refine vv_iload hC 7 dX5_ways_120 rfl ?_
            refine vv_iload hC 8 dX5_ways_122 rfl ?_
            refine vv_callSN hC dX5_ways_124 md_X8_has lk_n_X5_70 lk_t_X8_has (As := [.int (f_X8_cell ta_seenHouses 3), .int (nI k106)]) (rest := []) (c_X8_has g w0 (f_X8_cell ta_seenHouses 3) (nI k106)) rfl rfl (Nat.le_of_ble_eq_true rfl) ⟨by decide, by decide, by decide, by decide⟩ (fun r w9 hq => ?_)
            obtain ⟨rfl, rfl⟩ := hq
            show V g X 11 w0 0 0 127 [(10, .int (f_X8_cell p3 (nI k106))), (0, .ref a_ta), (1, .int p1), (2, .int 3), (3, .long p3), (5, .int (f_X8_cell ta_unseenWays 3)), (6, .long l6_106), (8, .int (f_X8_cell ta_seenHouses 3)), (9, .int (nI k106))] [.int (bI (f_X8_has (f_X8_cell ta_seenHouses 3) (nI k106)))]
            have hJ8 : V g X 11 w0 0 0 158 [(0, .ref a_ta), (1, .int p1), (2, .int 3), (3, .long p3), (5, .int (f_X8_cell ta_unseenWays 3)), (6, .long (if f_X8_has (f_X8_cell ta_seenHouses 3) (nI k106) = true then (if f_X8_cell p3 (nI k106) ≤ 0 then l6_106 else (l6_106 + f_X5_ways_4 ta_people ta_away ta_unseenWays ta_seenHouses p1 (f_X8_withCell p3 (nI k106) (f_X8_cell p3 (nI k106) - 1)))) else l6_106)), (8, .int (f_X8_cell ta_seenHouses 3)), (9, .int (nI k106)), (10, .int (f_X8_cell p3 (nI k106)))] [] := by
              refine vv_iinc (lv2 := [(9, .int (nI (k106 + 1))), (0, .ref a_ta), (1, .int p1), (2, .int 3), (3, .long p3), (5, .int (f_X8_cell ta_unseenWays 3)), (6, .long (if f_X8_has (f_X8_cell ta_seenHouses 3) (nI k106) = true then (if f_X8_cell p3 (nI k106) ≤ 0 then l6_106 else (l6_106 + f_X5_ways_4 ta_people ta_away ta_unseenWays ta_seenHouses p1 (f_X8_withCell p3 (nI k106) (f_X8_cell p3 (nI k106) - 1)))) else l6_106)), (8, .int (f_X8_cell ta_seenHouses 3)), (10, .int (f_X8_cell p3 (nI k106)))]) hC 7 dX5_ways_158 rfl (nI_add k106 1) (by decide) rfl ?_
              refine vv_goto hC 106 dX5_ways_161 (by decide) ?_
              refine vv_lv [1, 2, 3, 4, 5, 6, 7, 0] rfl ?_
              exact ih (k106 + 1) (if f_X8_has (f_X8_cell ta_seenHouses 3) (nI k106) = true then (if f_X8_cell p3 (nI k106) ≤ 0 then l6_106 else (l6_106 + f_X5_ways_4 ta_people ta_away ta_unseenWays ta_seenHouses p1 (f_X8_withCell p3 (nI k106) (f_X8_cell p3 (nI k106) - 1)))) else l6_106) out (by omega) (ho.trans (by first | (simp only [f_X5_ways_3_L106]; done) | rfl | (simp only [f_X5_ways_3_L106]; rfl))) hk
            refine vv_if_eq hC 158 dX5_ways_127 (by decide) (fun c7 => ?_) (fun c7 => ?_)
            · have c7 : ¬ (f_X8_has (f_X8_cell ta_seenHouses 3) (nI k106) = true) := bI_f c7
              refine vv_lv [1, 2, 3, 4, 5, 6, 7, 8, 0] rfl ?_
              have hz := hJ8
              try simp only [if_neg c7] at hz
              first | exact hz | (simp only [if_neg c7]; exact hz)
            · have c7 : f_X8_has (f_X8_cell ta_seenHouses 3) (nI k106) = true := bI_t c7
              refine vv_iload hC 0 dX5_ways_130 rfl ?_
              refine vv_if_le hC 158 dX5_ways_132 (by decide) (fun c9 => ?_) (fun c9 => ?_)
              · have c9 : f_X8_cell p3 (nI k106) ≤ 0 := c9
                refine vv_lv [1, 2, 3, 4, 5, 6, 7, 8, 0] rfl ?_
                have hz := hJ8
                try simp only [if_pos c7, if_pos c9] at hz
                first | exact hz | (simp only [if_pos c7, if_pos c9]; exact hz)
              · have c9 : ¬ (f_X8_cell p3 (nI k106) ≤ 0) := c9
                refine vv_lload hC 6 dX5_ways_135 rfl ?_
                refine vv_aload_n hC 1 dX5_ways_137 rfl rfl ?_
                refine vv_iload_n hC 2 dX5_ways_138 rfl rfl ?_
                refine vv_iload_n hC 3 dX5_ways_139 rfl rfl ?_
                refine vv_iconst (v := 1) hC dX5_ways_140 (by decide) ?_
                refine vv_iadd hC dX5_ways_141 ?_
                refine vv_topi (4) (by decide) ?_
                refine vv_lload_n hC 4 dX5_ways_142 rfl rfl ?_
                refine vv_iload hC 8 dX5_ways_143 rfl ?_
                refine vv_iload hC 0 dX5_ways_145 rfl ?_
                refine vv_iconst (v := 1) hC dX5_ways_147 (by decide) ?_
                refine vv_isub hC dX5_ways_148 ?_
                refine vv_callSN hC dX5_ways_149 md_X8_withCell lk_n_X5_89 lk_t_X8_withCell (As := [.long p3, .int (nI k106), .int (f_X8_cell p3 (nI k106) - 1)]) (rest := [.int 4, .int p1, .ref a_ta, .long l6_106]) (c_X8_withCell g w0 p3 (nI k106) (f_X8_cell p3 (nI k106) - 1)) rfl rfl (Nat.le_of_ble_eq_true rfl) ⟨by decide, by decide, by decide, by decide⟩ (fun r w9 hq => ?_)
                obtain ⟨rfl, rfl⟩ := hq
                show V g X 11 w0 0 0 152 [(10, .int (f_X8_cell p3 (nI k106))), (0, .ref a_ta), (1, .int p1), (2, .int 3), (3, .long p3), (5, .int (f_X8_cell ta_unseenWays 3)), (6, .long l6_106), (8, .int (f_X8_cell ta_seenHouses 3)), (9, .int (nI k106))] [.long (f_X8_withCell p3 (nI k106) (f_X8_cell p3 (nI k106) - 1)), .int 4, .int p1, .ref a_ta, .long l6_106]
                refine vv_callV hC dX5_ways_152 md_X5_ways lk_m_X5_53 lk_i_X5_ways lk_s_X5_ways h_ta rfl (As := [.int p1, .int 4, .long (f_X8_withCell p3 (nI k106) (f_X8_cell p3 (nI k106) - 1))]) (rest := [.long l6_106]) (c_X5_ways_4 g w0 a_ta a_fits a_left a_needs ta_people ta_away ta_unseenWays ta_seenHouses p1 (f_X8_withCell p3 (nI k106) (f_X8_cell p3 (nI k106) - 1)) (by omega) h_ta) rfl rfl (Nat.le_of_ble_eq_true rfl) ⟨by decide, by decide, by decide, by decide⟩ (fun r w9 hq => ?_)
                obtain ⟨rfl, rfl⟩ := hq
                show V g X 11 w0 0 0 155 [(10, .int (f_X8_cell p3 (nI k106))), (0, .ref a_ta), (1, .int p1), (2, .int 3), (3, .long p3), (5, .int (f_X8_cell ta_unseenWays 3)), (6, .long l6_106), (8, .int (f_X8_cell ta_seenHouses 3)), (9, .int (nI k106))] [.long (f_X5_ways_4 ta_people ta_away ta_unseenWays ta_seenHouses p1 (f_X8_withCell p3 (nI k106) (f_X8_cell p3 (nI k106) - 1))), .long l6_106]
                refine vv_ladd hC dX5_ways_155 ?_
                refine vv_lstore (lv2 := [(6, .long (l6_106 + f_X5_ways_4 ta_people ta_away ta_unseenWays ta_seenHouses p1 (f_X8_withCell p3 (nI k106) (f_X8_cell p3 (nI k106) - 1)))), (10, .int (f_X8_cell p3 (nI k106))), (0, .ref a_ta), (1, .int p1), (2, .int 3), (3, .long p3), (5, .int (f_X8_cell ta_unseenWays 3)), (8, .int (f_X8_cell ta_seenHouses 3)), (9, .int (nI k106))]) hC dX5_ways_156 (by decide) rfl ?_
                refine vv_lv [2, 3, 4, 5, 6, 0, 7, 8, 1] rfl ?_
                have hz := hJ8
                try simp only [if_pos c7, if_neg c9] at hz
                first | exact hz | (simp only [if_pos c7, if_neg c9]; exact hz)
        refine vv_lv [3, 4, 5, 6, 7, 2, 1, 0] rfl ?_
        refine hL10 4 0 (if f_X8_cell ta_unseenWays 3 = 0 then (0 : Int64) else ((f_X8_cell ta_unseenWays 3).toInt64 * f_X5_ways_4 ta_people ta_away ta_unseenWays ta_seenHouses p1 p3)) (f_X5_ways_3_L106 ta_people ta_away ta_unseenWays ta_seenHouses p1 p3 4 0 (if f_X8_cell ta_unseenWays 3 = 0 then (0 : Int64) else ((f_X8_cell ta_unseenWays 3).toInt64 * f_X5_ways_4 ta_people ta_away ta_unseenWays ta_seenHouses p1 p3))) (by omega) rfl ?_
        refine vv_lload hC 5 dX5_ways_164 rfl ?_
        have hf : (f_X5_ways_3 ta_people ta_away ta_unseenWays ta_seenHouses p1 p3) = (f_X5_ways_3_L106 ta_people ta_away ta_unseenWays ta_seenHouses p1 p3 4 0 (if f_X8_cell ta_unseenWays 3 = 0 then (0 : Int64) else ((f_X8_cell ta_unseenWays 3).toInt64 * f_X5_ways_4 ta_people ta_away ta_unseenWays ta_seenHouses p1 p3))) := by first | (simp only [f_X5_ways_3, if_neg c1, if_pos c4]; done) | rfl | (simp only [f_X5_ways_3, if_neg c1, if_pos c4]; rfl)
        refine vv_lret hC hR rfl dX5_ways_166 (by omega) (by omega) ?_
        rw [hf]
        exact ⟨rfl, rfl⟩
      refine vv_if_ne hC 78 dX5_ways_71 (by decide) (fun c5 => ?_) (fun c5 => ?_)
      · have c5 : ¬ (f_X8_cell ta_unseenWays 3 = 0) := c5
        refine vv_iload hC 0 dX5_ways_78 rfl ?_
        refine vv_i2l hC dX5_ways_80 ?_
        refine vv_aload_n hC 1 dX5_ways_81 rfl rfl ?_
        refine vv_iload_n hC 2 dX5_ways_82 rfl rfl ?_
        refine vv_iload_n hC 3 dX5_ways_83 rfl rfl ?_
        refine vv_iconst (v := 1) hC dX5_ways_84 (by decide) ?_
        refine vv_iadd hC dX5_ways_85 ?_
        refine vv_topi (4) (by decide) ?_
        refine vv_lload_n hC 4 dX5_ways_86 rfl rfl ?_
        refine vv_callV hC dX5_ways_87 md_X5_ways lk_m_X5_53 lk_i_X5_ways lk_s_X5_ways h_ta rfl (As := [.int p1, .int 4, .long p3]) (rest := [.long ((f_X8_cell ta_unseenWays 3).toInt64)]) (c_X5_ways_4 g w0 a_ta a_fits a_left a_needs ta_people ta_away ta_unseenWays ta_seenHouses p1 p3 (by omega) h_ta) rfl rfl (Nat.le_of_ble_eq_true rfl) ⟨by decide, by decide, by decide, by decide⟩ (fun r w9 hq => ?_)
        obtain ⟨rfl, rfl⟩ := hq
        show V g X 11 w0 0 0 90 [(5, .int (f_X8_cell ta_unseenWays 3)), (0, .ref a_ta), (1, .int p1), (2, .int 3), (3, .long p3)] [.long (f_X5_ways_4 ta_people ta_away ta_unseenWays ta_seenHouses p1 p3), .long ((f_X8_cell ta_unseenWays 3).toInt64)]
        refine vv_lmul hC dX5_ways_90 ?_
        refine vv_lv [1, 2, 3, 4, 0] rfl ?_
        have hz := hJ6
        try simp only [if_neg c5] at hz
        first | exact hz | (simp only [if_neg c5]; exact hz)
      · have c5 : f_X8_cell ta_unseenWays 3 = 0 := c5
        refine vv_lconst (v := 0) hC dX5_ways_74 (by decide) ?_
        refine vv_goto hC 91 dX5_ways_75 (by decide) ?_
        refine vv_lv [1, 2, 3, 4, 0] rfl ?_
        have hz := hJ6
        try simp only [if_pos c5] at hz
        first | exact hz | (simp only [if_pos c5]; exact hz)
    · have c4 : ¬ (f_X8_has p1 3 = true) := bI_f c4
      refine vv_aload_n hC 0 dX5_ways_34 rfl rfl ?_
      refine vv_get (v := .int ta_away) hC fl_X5_26 dX5_ways_35 h_ta rfl ?_
      refine vv_iload_n hC 2 dX5_ways_38 rfl rfl ?_
      refine vv_callSN hC dX5_ways_39 md_X8_has lk_n_X5_70 lk_t_X8_has (As := [.int ta_away, .int 3]) (rest := []) (c_X8_has g w0 ta_away 3) rfl rfl (Nat.le_of_ble_eq_true rfl) ⟨by decide, by decide, by decide, by decide⟩ (fun r w9 hq => ?_)
      obtain ⟨rfl, rfl⟩ := hq
      show V g X 11 w0 0 0 42 [(0, .ref a_ta), (1, .int p1), (2, .int 3), (3, .long p3)] [.int (bI (f_X8_has ta_away 3))]
      have hJ12 : V g X 11 w0 0 0 58 [(0, .ref a_ta), (1, .int p1), (2, .int 3), (3, .long p3)] [.long (if f_X8_has ta_away 3 = true then (0 : Int64) else f_X5_ways_4 ta_people ta_away ta_unseenWays ta_seenHouses p1 p3)] := by
        have hf : (f_X5_ways_3 ta_people ta_away ta_unseenWays ta_seenHouses p1 p3) = (if f_X8_has ta_away 3 = true then (0 : Int64) else f_X5_ways_4 ta_people ta_away ta_unseenWays ta_seenHouses p1 p3) := by first | (simp only [f_X5_ways_3, if_neg c1, if_neg c4]; done) | rfl | (simp only [f_X5_ways_3, if_neg c1, if_neg c4]; rfl)
        refine vv_lret hC hR rfl dX5_ways_58 (by omega) (by omega) ?_
        rw [hf]
        exact ⟨rfl, rfl⟩
      refine vv_if_eq hC 49 dX5_ways_42 (by decide) (fun c11 => ?_) (fun c11 => ?_)
      · have c11 : ¬ (f_X8_has ta_away 3 = true) := bI_f c11
        refine vv_aload_n hC 0 dX5_ways_49 rfl rfl ?_
        refine vv_iload_n hC 1 dX5_ways_50 rfl rfl ?_
        refine vv_iload_n hC 2 dX5_ways_51 rfl rfl ?_
        refine vv_iconst (v := 1) hC dX5_ways_52 (by decide) ?_
        refine vv_iadd hC dX5_ways_53 ?_
        refine vv_topi (4) (by decide) ?_
        refine vv_lload_n hC 3 dX5_ways_54 rfl rfl ?_
        refine vv_callV hC dX5_ways_55 md_X5_ways lk_m_X5_53 lk_i_X5_ways lk_s_X5_ways h_ta rfl (As := [.int p1, .int 4, .long p3]) (rest := []) (c_X5_ways_4 g w0 a_ta a_fits a_left a_needs ta_people ta_away ta_unseenWays ta_seenHouses p1 p3 (by omega) h_ta) rfl rfl (Nat.le_of_ble_eq_true rfl) ⟨by decide, by decide, by decide, by decide⟩ (fun r w9 hq => ?_)
        obtain ⟨rfl, rfl⟩ := hq
        show V g X 11 w0 0 0 58 [(0, .ref a_ta), (1, .int p1), (2, .int 3), (3, .long p3)] [.long (f_X5_ways_4 ta_people ta_away ta_unseenWays ta_seenHouses p1 p3)]
        have hz := hJ12
        try simp only [if_neg c11] at hz
        first | exact hz | (simp only [if_neg c11]; exact hz)
      · have c11 : f_X8_has ta_away 3 = true := bI_t c11
        refine vv_lconst (v := 0) hC dX5_ways_45 (by decide) ?_
        refine vv_goto hC 58 dX5_ways_46 (by decide) ?_
        have hz := hJ12
        try simp only [if_pos c11] at hz
        first | exact hz | (simp only [if_pos c11]; exact hz)
def f_X5_ways_2_L106 (ta_people : Nat) (ta_away : Int32) (ta_unseenWays : Int64) (ta_seenHouses : Int64) (p1 : Int32) (p3 : Int64) : Nat → Nat → Int64 → Int64
  | 0, k106, l6_106 => l6_106
  | r106 + 1, k106, l6_106 => f_X5_ways_2_L106 ta_people ta_away ta_unseenWays ta_seenHouses p1 p3 r106 (k106 + 1) (if f_X8_has (f_X8_cell ta_seenHouses 2) (nI k106) = true then (if f_X8_cell p3 (nI k106) ≤ 0 then l6_106 else (l6_106 + f_X5_ways_3 ta_people ta_away ta_unseenWays ta_seenHouses p1 (f_X8_withCell p3 (nI k106) (f_X8_cell p3 (nI k106) - 1)))) else l6_106)
def f_X5_ways_2 (ta_people : Nat) (ta_away : Int32) (ta_unseenWays : Int64) (ta_seenHouses : Int64) (p1 : Int32) (p3 : Int64) : Int64 := (if ta_people ≤ 2 then (if p3 = 0 then (1 : Int64) else (0 : Int64)) else (if f_X8_has p1 2 = true then (f_X5_ways_2_L106 ta_people ta_away ta_unseenWays ta_seenHouses p1 p3 4 0 (if f_X8_cell ta_unseenWays 2 = 0 then (0 : Int64) else ((f_X8_cell ta_unseenWays 2).toInt64 * f_X5_ways_3 ta_people ta_away ta_unseenWays ta_seenHouses p1 p3))) else (if f_X8_has ta_away 2 = true then (0 : Int64) else f_X5_ways_3 ta_people ta_away ta_unseenWays ta_seenHouses p1 p3)))
set_option maxHeartbeats 4000000 in
set_option maxRecDepth 100000 in
theorem c_X5_ways_2 (g : GT) (w0 : Wd) (a_ta : Nat) (a_fits : Nat) (a_left : Nat) (a_needs : Nat) (ta_people : Nat) (ta_away : Int32) (ta_unseenWays : Int64) (ta_seenHouses : Int64) (p1 : Int32) (p3 : Int64) (htp : ta_people ≤ 6) (h_ta : w0 a_ta = some (.inr (5, cTa a_fits a_left a_needs (ta_people, ta_away, ta_unseenWays, ta_seenHouses)))) : CT g yX5_ways cX5_ways 11 (some .long) 4 120 0 0 w0 [.ref a_ta, .int p1, .int 2, .long p3] (fun r w2 => r = some (.long (f_X5_ways_2 ta_people ta_away ta_unseenWays ta_seenHouses p1 p3)) ∧ w0 = w2) := by
  refine CT.of (own := RX5) (by decide +kernel) rfl (Nat.le_of_ble_eq_true rfl) (fun X hC hR hI => ?_)
  show V g X 11 w0 0 0 0 [(0, .ref a_ta), (1, .int p1), (2, .int 2), (3, .long p3)] []
  refine vv_iload_n hC 2 dX5_ways_0 rfl rfl ?_
  refine vv_aload_n hC 0 dX5_ways_1 rfl rfl ?_
  refine vv_get (v := .int (nI ta_people)) hC fl_X5_22 dX5_ways_2 h_ta rfl ?_
  refine vv_icmp_ge hC 14 dX5_ways_5 (by decide) (fun c1 => ?_) (fun c1 => ?_)
  · have c1 : ta_people ≤ 2 := (nI_le_ (a := ta_people) (b := 2) (by omega) (by omega)).mp c1
    refine vv_lload_n hC 3 dX5_ways_14 rfl rfl ?_
    refine vv_lconst (v := 0) hC dX5_ways_15 (by decide) ?_
    refine vv_lcmp hC dX5_ways_16 ?_
    have hJ3 : V g X 11 w0 0 0 25 [(0, .ref a_ta), (1, .int p1), (2, .int 2), (3, .long p3)] [.long (if p3 = 0 then (1 : Int64) else (0 : Int64))] := by
      have hf : (f_X5_ways_2 ta_people ta_away ta_unseenWays ta_seenHouses p1 p3) = (if p3 = 0 then (1 : Int64) else (0 : Int64)) := by first | (simp only [f_X5_ways_2, if_pos c1]; done) | rfl | (simp only [f_X5_ways_2, if_pos c1]; rfl)
      refine vv_lret hC hR rfl dX5_ways_25 (by omega) (by omega) ?_
      rw [hf]
      exact ⟨rfl, rfl⟩
    refine vv_if_ne hC 24 dX5_ways_17 (by decide) (fun c2 => ?_) (fun c2 => ?_)
    · have c2 : ¬ (p3 = 0) := lc_ne c2
      refine vv_lconst (v := 0) hC dX5_ways_24 (by decide) ?_
      have hz := hJ3
      try simp only [if_neg c2] at hz
      first | exact hz | (simp only [if_neg c2]; exact hz)
    · have c2 : p3 = 0 := lc_eq c2
      refine vv_lconst (v := 1) hC dX5_ways_20 (by decide) ?_
      refine vv_goto hC 25 dX5_ways_21 (by decide) ?_
      have hz := hJ3
      try simp only [if_pos c2] at hz
      first | exact hz | (simp only [if_pos c2]; exact hz)
  · have c1 : ¬ (ta_people ≤ 2) := fun z => c1 ((nI_le_ (a := ta_people) (b := 2) (by omega) (by omega)).mpr z)
    refine vv_iload_n hC 2 dX5_ways_8 rfl rfl ?_
    refine vv_bipush (v := (6)) hC dX5_ways_9 (by decide) ?_
    refine vv_icmp_lt hC 26 dX5_ways_11 (by decide) (fun _ => ?_) (fun c => absurd (by decide) c)
    refine vv_iload_n hC 1 dX5_ways_26 rfl rfl ?_
    refine vv_iload_n hC 2 dX5_ways_27 rfl rfl ?_
    refine vv_callSN hC dX5_ways_28 md_X8_has lk_n_X5_70 lk_t_X8_has (As := [.int p1, .int 2]) (rest := []) (c_X8_has g w0 p1 2) rfl rfl (Nat.le_of_ble_eq_true rfl) ⟨by decide, by decide, by decide, by decide⟩ (fun r w9 hq => ?_)
    obtain ⟨rfl, rfl⟩ := hq
    show V g X 11 w0 0 0 31 [(0, .ref a_ta), (1, .int p1), (2, .int 2), (3, .long p3)] [.int (bI (f_X8_has p1 2))]
    refine vv_if_ne hC 59 dX5_ways_31 (by decide) (fun c4 => ?_) (fun c4 => ?_)
    · have c4 : f_X8_has p1 2 = true := bI_t c4
      refine vv_aload_n hC 0 dX5_ways_59 rfl rfl ?_
      refine vv_get (v := .long ta_unseenWays) hC fl_X5_29 dX5_ways_60 h_ta rfl ?_
      refine vv_iload_n hC 2 dX5_ways_63 rfl rfl ?_
      refine vv_callSN hC dX5_ways_64 md_X8_cell lk_n_X5_83 lk_t_X8_cell (As := [.long ta_unseenWays, .int 2]) (rest := []) (c_X8_cell g w0 ta_unseenWays 2) rfl rfl (Nat.le_of_ble_eq_true rfl) ⟨by decide, by decide, by decide, by decide⟩ (fun r w9 hq => ?_)
      obtain ⟨rfl, rfl⟩ := hq
      show V g X 11 w0 0 0 67 [(0, .ref a_ta), (1, .int p1), (2, .int 2), (3, .long p3)] [.int (f_X8_cell ta_unseenWays 2)]
      refine vv_istore (lv2 := [(5, .int (f_X8_cell ta_unseenWays 2)), (0, .ref a_ta), (1, .int p1), (2, .int 2), (3, .long p3)]) hC dX5_ways_67 (by decide) rfl ?_
      refine vv_iload hC 0 dX5_ways_69 rfl ?_
      have hJ6 : V g X 11 w0 0 0 91 [(0, .ref a_ta), (1, .int p1), (2, .int 2), (3, .long p3), (5, .int (f_X8_cell ta_unseenWays 2))] [.long (if f_X8_cell ta_unseenWays 2 = 0 then (0 : Int64) else ((f_X8_cell ta_unseenWays 2).toInt64 * f_X5_ways_3 ta_people ta_away ta_unseenWays ta_seenHouses p1 p3))] := by
        refine vv_lstore (lv2 := [(6, .long (if f_X8_cell ta_unseenWays 2 = 0 then (0 : Int64) else ((f_X8_cell ta_unseenWays 2).toInt64 * f_X5_ways_3 ta_people ta_away ta_unseenWays ta_seenHouses p1 p3))), (0, .ref a_ta), (1, .int p1), (2, .int 2), (3, .long p3), (5, .int (f_X8_cell ta_unseenWays 2))]) hC dX5_ways_91 (by decide) rfl ?_
        refine vv_aload_n hC 1 dX5_ways_93 rfl rfl ?_
        refine vv_get (v := .long ta_seenHouses) hC fl_X5_33 dX5_ways_94 h_ta rfl ?_
        refine vv_iload_n hC 3 dX5_ways_97 rfl rfl ?_
        refine vv_callSN hC dX5_ways_98 md_X8_cell lk_n_X5_83 lk_t_X8_cell (As := [.long ta_seenHouses, .int 2]) (rest := []) (c_X8_cell g w0 ta_seenHouses 2) rfl rfl (Nat.le_of_ble_eq_true rfl) ⟨by decide, by decide, by decide, by decide⟩ (fun r w9 hq => ?_)
        obtain ⟨rfl, rfl⟩ := hq
        show V g X 11 w0 0 0 101 [(6, .long (if f_X8_cell ta_unseenWays 2 = 0 then (0 : Int64) else ((f_X8_cell ta_unseenWays 2).toInt64 * f_X5_ways_3 ta_people ta_away ta_unseenWays ta_seenHouses p1 p3))), (0, .ref a_ta), (1, .int p1), (2, .int 2), (3, .long p3), (5, .int (f_X8_cell ta_unseenWays 2))] [.int (f_X8_cell ta_seenHouses 2)]
        refine vv_istore (lv2 := [(8, .int (f_X8_cell ta_seenHouses 2)), (6, .long (if f_X8_cell ta_unseenWays 2 = 0 then (0 : Int64) else ((f_X8_cell ta_unseenWays 2).toInt64 * f_X5_ways_3 ta_people ta_away ta_unseenWays ta_seenHouses p1 p3))), (0, .ref a_ta), (1, .int p1), (2, .int 2), (3, .long p3), (5, .int (f_X8_cell ta_unseenWays 2))]) hC dX5_ways_101 (by decide) rfl ?_
        refine vv_iconst (v := 0) hC dX5_ways_103 (by decide) ?_
        refine vv_istore (lv2 := [(9, .int 0), (8, .int (f_X8_cell ta_seenHouses 2)), (6, .long (if f_X8_cell ta_unseenWays 2 = 0 then (0 : Int64) else ((f_X8_cell ta_unseenWays 2).toInt64 * f_X5_ways_3 ta_people ta_away ta_unseenWays ta_seenHouses p1 p3))), (0, .ref a_ta), (1, .int p1), (2, .int 2), (3, .long p3), (5, .int (f_X8_cell ta_unseenWays 2))]) hC dX5_ways_104 (by decide) rfl ?_
        have hL10 : ∀ (r106 k106 : Nat) (l6_106 : Int64) (out : Int64), k106 + r106 = 4 → out = f_X5_ways_2_L106 ta_people ta_away ta_unseenWays ta_seenHouses p1 p3 r106 k106 l6_106 → V g X 11 w0 0 0 164 [(0, .ref a_ta), (1, .int p1), (2, .int 2), (3, .long p3), (5, .int (f_X8_cell ta_unseenWays 2)), (6, .long out), (8, .int (f_X8_cell ta_seenHouses 2))] [] → V g X 11 w0 0 0 106 [(0, .ref a_ta), (1, .int p1), (2, .int 2), (3, .long p3), (5, .int (f_X8_cell ta_unseenWays 2)), (6, .long l6_106), (8, .int (f_X8_cell ta_seenHouses 2)), (9, .int (nI k106))] [] := by
          intro r106
          induction r106 with
          | zero =>
            intro k106 l6_106 out hb ho hk
            refine vv_iload hC 7 dX5_ways_106 rfl ?_
            refine vv_iconst (v := 4) hC dX5_ways_108 (by decide) ?_
            refine vv_icmp_ge hC 164 dX5_ways_109 (by decide) (fun c => ?_) (fun c => False.elim (c ((nI_le_ (a := 4) (b := k106) (by omega) (by omega)).mpr (by omega))))
            refine vv_lv [0, 1, 2, 3, 4, 5, 6] rfl ?_
            have ho := ho.trans (by first | (simp only [f_X5_ways_2_L106]; done) | rfl | (simp only [f_X5_ways_2_L106]; rfl) : _ = l6_106)
            subst ho
            exact hk
          | succ r106 ih =>
            intro k106 l6_106 out hb ho hk
            refine vv_iload hC 7 dX5_ways_106 rfl ?_
            refine vv_iconst (v := 4) hC dX5_ways_108 (by decide) ?_
            refine vv_icmp_ge hC 164 dX5_ways_109 (by decide) (fun c => absurd ((nI_le_ (a := 4) (b := k106) (by omega) (by omega)).mp c) (by first | omega | decide)) (fun c => ?_)
            refine vv_lload_n hC 3 dX5_ways_112 rfl rfl ?_
            refine vv_iload hC 7 dX5_ways_113 rfl ?_
            refine vv_callSN hC dX5_ways_115 md_X8_cell lk_n_X5_83 lk_t_X8_cell (As := [.long p3, .int (nI k106)]) (rest := []) (c_X8_cell g w0 p3 (nI k106)) rfl rfl (Nat.le_of_ble_eq_true rfl) ⟨by decide, by decide, by decide, by decide⟩ (fun r w9 hq => ?_)
            obtain ⟨rfl, rfl⟩ := hq
            show V g X 11 w0 0 0 118 [(0, .ref a_ta), (1, .int p1), (2, .int 2), (3, .long p3), (5, .int (f_X8_cell ta_unseenWays 2)), (6, .long l6_106), (8, .int (f_X8_cell ta_seenHouses 2)), (9, .int (nI k106))] [.int (f_X8_cell p3 (nI k106))]
            refine vv_istore (lv2 := [(10, .int (f_X8_cell p3 (nI k106))), (0, .ref a_ta), (1, .int p1), (2, .int 2), (3, .long p3), (5, .int (f_X8_cell ta_unseenWays 2)), (6, .long l6_106), (8, .int (f_X8_cell ta_seenHouses 2)), (9, .int (nI k106))]) hC dX5_ways_118 (by decide) rfl ?_
            refine vv_iload hC 7 dX5_ways_120 rfl ?_
            refine vv_iload hC 8 dX5_ways_122 rfl ?_
            refine vv_callSN hC dX5_ways_124 md_X8_has lk_n_X5_70 lk_t_X8_has (As := [.int (f_X8_cell ta_seenHouses 2), .int (nI k106)]) (rest := []) (c_X8_has g w0 (f_X8_cell ta_seenHouses 2) (nI k106)) rfl rfl (Nat.le_of_ble_eq_true rfl) ⟨by decide, by decide, by decide, by decide⟩ (fun r w9 hq => ?_)
            obtain ⟨rfl, rfl⟩ := hq
            show V g X 11 w0 0 0 127 [(10, .int (f_X8_cell p3 (nI k106))), (0, .ref a_ta), (1, .int p1), (2, .int 2), (3, .long p3), (5, .int (f_X8_cell ta_unseenWays 2)), (6, .long l6_106), (8, .int (f_X8_cell ta_seenHouses 2)), (9, .int (nI k106))] [.int (bI (f_X8_has (f_X8_cell ta_seenHouses 2) (nI k106)))]
            have hJ8 : V g X 11 w0 0 0 158 [(0, .ref a_ta), (1, .int p1), (2, .int 2), (3, .long p3), (5, .int (f_X8_cell ta_unseenWays 2)), (6, .long (if f_X8_has (f_X8_cell ta_seenHouses 2) (nI k106) = true then (if f_X8_cell p3 (nI k106) ≤ 0 then l6_106 else (l6_106 + f_X5_ways_3 ta_people ta_away ta_unseenWays ta_seenHouses p1 (f_X8_withCell p3 (nI k106) (f_X8_cell p3 (nI k106) - 1)))) else l6_106)), (8, .int (f_X8_cell ta_seenHouses 2)), (9, .int (nI k106)), (10, .int (f_X8_cell p3 (nI k106)))] [] := by
              refine vv_iinc (lv2 := [(9, .int (nI (k106 + 1))), (0, .ref a_ta), (1, .int p1), (2, .int 2), (3, .long p3), (5, .int (f_X8_cell ta_unseenWays 2)), (6, .long (if f_X8_has (f_X8_cell ta_seenHouses 2) (nI k106) = true then (if f_X8_cell p3 (nI k106) ≤ 0 then l6_106 else (l6_106 + f_X5_ways_3 ta_people ta_away ta_unseenWays ta_seenHouses p1 (f_X8_withCell p3 (nI k106) (f_X8_cell p3 (nI k106) - 1)))) else l6_106)), (8, .int (f_X8_cell ta_seenHouses 2)), (10, .int (f_X8_cell p3 (nI k106)))]) hC 7 dX5_ways_158 rfl (nI_add k106 1) (by decide) rfl ?_
              refine vv_goto hC 106 dX5_ways_161 (by decide) ?_
              refine vv_lv [1, 2, 3, 4, 5, 6, 7, 0] rfl ?_
              exact ih (k106 + 1) (if f_X8_has (f_X8_cell ta_seenHouses 2) (nI k106) = true then (if f_X8_cell p3 (nI k106) ≤ 0 then l6_106 else (l6_106 + f_X5_ways_3 ta_people ta_away ta_unseenWays ta_seenHouses p1 (f_X8_withCell p3 (nI k106) (f_X8_cell p3 (nI k106) - 1)))) else l6_106) out (by omega) (ho.trans (by first | (simp only [f_X5_ways_2_L106]; done) | rfl | (simp only [f_X5_ways_2_L106]; rfl))) hk
            refine vv_if_eq hC 158 dX5_ways_127 (by decide) (fun c7 => ?_) (fun c7 => ?_)
            · have c7 : ¬ (f_X8_has (f_X8_cell ta_seenHouses 2) (nI k106) = true) := bI_f c7
              refine vv_lv [1, 2, 3, 4, 5, 6, 7, 8, 0] rfl ?_
              have hz := hJ8
              try simp only [if_neg c7] at hz
              first | exact hz | (simp only [if_neg c7]; exact hz)
            · have c7 : f_X8_has (f_X8_cell ta_seenHouses 2) (nI k106) = true := bI_t c7
              refine vv_iload hC 0 dX5_ways_130 rfl ?_
              refine vv_if_le hC 158 dX5_ways_132 (by decide) (fun c9 => ?_) (fun c9 => ?_)
              · have c9 : f_X8_cell p3 (nI k106) ≤ 0 := c9
                refine vv_lv [1, 2, 3, 4, 5, 6, 7, 8, 0] rfl ?_
                have hz := hJ8
                try simp only [if_pos c7, if_pos c9] at hz
                first | exact hz | (simp only [if_pos c7, if_pos c9]; exact hz)
              · have c9 : ¬ (f_X8_cell p3 (nI k106) ≤ 0) := c9
                refine vv_lload hC 6 dX5_ways_135 rfl ?_
                refine vv_aload_n hC 1 dX5_ways_137 rfl rfl ?_
                refine vv_iload_n hC 2 dX5_ways_138 rfl rfl ?_
                refine vv_iload_n hC 3 dX5_ways_139 rfl rfl ?_
                refine vv_iconst (v := 1) hC dX5_ways_140 (by decide) ?_
                refine vv_iadd hC dX5_ways_141 ?_
                refine vv_topi (3) (by decide) ?_
                refine vv_lload_n hC 4 dX5_ways_142 rfl rfl ?_
                refine vv_iload hC 8 dX5_ways_143 rfl ?_
                refine vv_iload hC 0 dX5_ways_145 rfl ?_
                refine vv_iconst (v := 1) hC dX5_ways_147 (by decide) ?_
                refine vv_isub hC dX5_ways_148 ?_
                refine vv_callSN hC dX5_ways_149 md_X8_withCell lk_n_X5_89 lk_t_X8_withCell (As := [.long p3, .int (nI k106), .int (f_X8_cell p3 (nI k106) - 1)]) (rest := [.int 3, .int p1, .ref a_ta, .long l6_106]) (c_X8_withCell g w0 p3 (nI k106) (f_X8_cell p3 (nI k106) - 1)) rfl rfl (Nat.le_of_ble_eq_true rfl) ⟨by decide, by decide, by decide, by decide⟩ (fun r w9 hq => ?_)
                obtain ⟨rfl, rfl⟩ := hq
                show V g X 11 w0 0 0 152 [(10, .int (f_X8_cell p3 (nI k106))), (0, .ref a_ta), (1, .int p1), (2, .int 2), (3, .long p3), (5, .int (f_X8_cell ta_unseenWays 2)), (6, .long l6_106), (8, .int (f_X8_cell ta_seenHouses 2)), (9, .int (nI k106))] [.long (f_X8_withCell p3 (nI k106) (f_X8_cell p3 (nI k106) - 1)), .int 3, .int p1, .ref a_ta, .long l6_106]
                refine vv_callV hC dX5_ways_152 md_X5_ways lk_m_X5_53 lk_i_X5_ways lk_s_X5_ways h_ta rfl (As := [.int p1, .int 3, .long (f_X8_withCell p3 (nI k106) (f_X8_cell p3 (nI k106) - 1))]) (rest := [.long l6_106]) (c_X5_ways_3 g w0 a_ta a_fits a_left a_needs ta_people ta_away ta_unseenWays ta_seenHouses p1 (f_X8_withCell p3 (nI k106) (f_X8_cell p3 (nI k106) - 1)) (by omega) h_ta) rfl rfl (Nat.le_of_ble_eq_true rfl) ⟨by decide, by decide, by decide, by decide⟩ (fun r w9 hq => ?_)
                obtain ⟨rfl, rfl⟩ := hq
                show V g X 11 w0 0 0 155 [(10, .int (f_X8_cell p3 (nI k106))), (0, .ref a_ta), (1, .int p1), (2, .int 2), (3, .long p3), (5, .int (f_X8_cell ta_unseenWays 2)), (6, .long l6_106), (8, .int (f_X8_cell ta_seenHouses 2)), (9, .int (nI k106))] [.long (f_X5_ways_3 ta_people ta_away ta_unseenWays ta_seenHouses p1 (f_X8_withCell p3 (nI k106) (f_X8_cell p3 (nI k106) - 1))), .long l6_106]
                refine vv_ladd hC dX5_ways_155 ?_
                refine vv_lstore (lv2 := [(6, .long (l6_106 + f_X5_ways_3 ta_people ta_away ta_unseenWays ta_seenHouses p1 (f_X8_withCell p3 (nI k106) (f_X8_cell p3 (nI k106) - 1)))), (10, .int (f_X8_cell p3 (nI k106))), (0, .ref a_ta), (1, .int p1), (2, .int 2), (3, .long p3), (5, .int (f_X8_cell ta_unseenWays 2)), (8, .int (f_X8_cell ta_seenHouses 2)), (9, .int (nI k106))]) hC dX5_ways_156 (by decide) rfl ?_
                refine vv_lv [2, 3, 4, 5, 6, 0, 7, 8, 1] rfl ?_
                have hz := hJ8
                try simp only [if_pos c7, if_neg c9] at hz
                first | exact hz | (simp only [if_pos c7, if_neg c9]; exact hz)
        refine vv_lv [3, 4, 5, 6, 7, 2, 1, 0] rfl ?_
        refine hL10 4 0 (if f_X8_cell ta_unseenWays 2 = 0 then (0 : Int64) else ((f_X8_cell ta_unseenWays 2).toInt64 * f_X5_ways_3 ta_people ta_away ta_unseenWays ta_seenHouses p1 p3)) (f_X5_ways_2_L106 ta_people ta_away ta_unseenWays ta_seenHouses p1 p3 4 0 (if f_X8_cell ta_unseenWays 2 = 0 then (0 : Int64) else ((f_X8_cell ta_unseenWays 2).toInt64 * f_X5_ways_3 ta_people ta_away ta_unseenWays ta_seenHouses p1 p3))) (by omega) rfl ?_
        refine vv_lload hC 5 dX5_ways_164 rfl ?_
        have hf : (f_X5_ways_2 ta_people ta_away ta_unseenWays ta_seenHouses p1 p3) = (f_X5_ways_2_L106 ta_people ta_away ta_unseenWays ta_seenHouses p1 p3 4 0 (if f_X8_cell ta_unseenWays 2 = 0 then (0 : Int64) else ((f_X8_cell ta_unseenWays 2).toInt64 * f_X5_ways_3 ta_people ta_away ta_unseenWays ta_seenHouses p1 p3))) := by first | (simp only [f_X5_ways_2, if_neg c1, if_pos c4]; done) | rfl | (simp only [f_X5_ways_2, if_neg c1, if_pos c4]; rfl)
        refine vv_lret hC hR rfl dX5_ways_166 (by omega) (by omega) ?_
        rw [hf]
        exact ⟨rfl, rfl⟩
      refine vv_if_ne hC 78 dX5_ways_71 (by decide) (fun c5 => ?_) (fun c5 => ?_)
      · have c5 : ¬ (f_X8_cell ta_unseenWays 2 = 0) := c5
        refine vv_iload hC 0 dX5_ways_78 rfl ?_
        refine vv_i2l hC dX5_ways_80 ?_
        refine vv_aload_n hC 1 dX5_ways_81 rfl rfl ?_
        refine vv_iload_n hC 2 dX5_ways_82 rfl rfl ?_
        refine vv_iload_n hC 3 dX5_ways_83 rfl rfl ?_
        refine vv_iconst (v := 1) hC dX5_ways_84 (by decide) ?_
        refine vv_iadd hC dX5_ways_85 ?_
        refine vv_topi (3) (by decide) ?_
        refine vv_lload_n hC 4 dX5_ways_86 rfl rfl ?_
        refine vv_callV hC dX5_ways_87 md_X5_ways lk_m_X5_53 lk_i_X5_ways lk_s_X5_ways h_ta rfl (As := [.int p1, .int 3, .long p3]) (rest := [.long ((f_X8_cell ta_unseenWays 2).toInt64)]) (c_X5_ways_3 g w0 a_ta a_fits a_left a_needs ta_people ta_away ta_unseenWays ta_seenHouses p1 p3 (by omega) h_ta) rfl rfl (Nat.le_of_ble_eq_true rfl) ⟨by decide, by decide, by decide, by decide⟩ (fun r w9 hq => ?_)
        obtain ⟨rfl, rfl⟩ := hq
        show V g X 11 w0 0 0 90 [(5, .int (f_X8_cell ta_unseenWays 2)), (0, .ref a_ta), (1, .int p1), (2, .int 2), (3, .long p3)] [.long (f_X5_ways_3 ta_people ta_away ta_unseenWays ta_seenHouses p1 p3), .long ((f_X8_cell ta_unseenWays 2).toInt64)]
        refine vv_lmul hC dX5_ways_90 ?_
        refine vv_lv [1, 2, 3, 4, 0] rfl ?_
        have hz := hJ6
        try simp only [if_neg c5] at hz
        first | exact hz | (simp only [if_neg c5]; exact hz)
      · have c5 : f_X8_cell ta_unseenWays 2 = 0 := c5
        refine vv_lconst (v := 0) hC dX5_ways_74 (by decide) ?_
        refine vv_goto hC 91 dX5_ways_75 (by decide) ?_
        refine vv_lv [1, 2, 3, 4, 0] rfl ?_
        have hz := hJ6
        try simp only [if_pos c5] at hz
        first | exact hz | (simp only [if_pos c5]; exact hz)
    · have c4 : ¬ (f_X8_has p1 2 = true) := bI_f c4
      refine vv_aload_n hC 0 dX5_ways_34 rfl rfl ?_
      refine vv_get (v := .int ta_away) hC fl_X5_26 dX5_ways_35 h_ta rfl ?_
      refine vv_iload_n hC 2 dX5_ways_38 rfl rfl ?_
      refine vv_callSN hC dX5_ways_39 md_X8_has lk_n_X5_70 lk_t_X8_has (As := [.int ta_away, .int 2]) (rest := []) (c_X8_has g w0 ta_away 2) rfl rfl (Nat.le_of_ble_eq_true rfl) ⟨by decide, by decide, by decide, by decide⟩ (fun r w9 hq => ?_)
      obtain ⟨rfl, rfl⟩ := hq
      show V g X 11 w0 0 0 42 [(0, .ref a_ta), (1, .int p1), (2, .int 2), (3, .long p3)] [.int (bI (f_X8_has ta_away 2))]
      have hJ12 : V g X 11 w0 0 0 58 [(0, .ref a_ta), (1, .int p1), (2, .int 2), (3, .long p3)] [.long (if f_X8_has ta_away 2 = true then (0 : Int64) else f_X5_ways_3 ta_people ta_away ta_unseenWays ta_seenHouses p1 p3)] := by
        have hf : (f_X5_ways_2 ta_people ta_away ta_unseenWays ta_seenHouses p1 p3) = (if f_X8_has ta_away 2 = true then (0 : Int64) else f_X5_ways_3 ta_people ta_away ta_unseenWays ta_seenHouses p1 p3) := by first | (simp only [f_X5_ways_2, if_neg c1, if_neg c4]; done) | rfl | (simp only [f_X5_ways_2, if_neg c1, if_neg c4]; rfl)
        refine vv_lret hC hR rfl dX5_ways_58 (by omega) (by omega) ?_
        rw [hf]
        exact ⟨rfl, rfl⟩
      refine vv_if_eq hC 49 dX5_ways_42 (by decide) (fun c11 => ?_) (fun c11 => ?_)
      · have c11 : ¬ (f_X8_has ta_away 2 = true) := bI_f c11
        refine vv_aload_n hC 0 dX5_ways_49 rfl rfl ?_
        refine vv_iload_n hC 1 dX5_ways_50 rfl rfl ?_
        refine vv_iload_n hC 2 dX5_ways_51 rfl rfl ?_
        refine vv_iconst (v := 1) hC dX5_ways_52 (by decide) ?_
        refine vv_iadd hC dX5_ways_53 ?_
        refine vv_topi (3) (by decide) ?_
        refine vv_lload_n hC 3 dX5_ways_54 rfl rfl ?_
        refine vv_callV hC dX5_ways_55 md_X5_ways lk_m_X5_53 lk_i_X5_ways lk_s_X5_ways h_ta rfl (As := [.int p1, .int 3, .long p3]) (rest := []) (c_X5_ways_3 g w0 a_ta a_fits a_left a_needs ta_people ta_away ta_unseenWays ta_seenHouses p1 p3 (by omega) h_ta) rfl rfl (Nat.le_of_ble_eq_true rfl) ⟨by decide, by decide, by decide, by decide⟩ (fun r w9 hq => ?_)
        obtain ⟨rfl, rfl⟩ := hq
        show V g X 11 w0 0 0 58 [(0, .ref a_ta), (1, .int p1), (2, .int 2), (3, .long p3)] [.long (f_X5_ways_3 ta_people ta_away ta_unseenWays ta_seenHouses p1 p3)]
        have hz := hJ12
        try simp only [if_neg c11] at hz
        first | exact hz | (simp only [if_neg c11]; exact hz)
      · have c11 : f_X8_has ta_away 2 = true := bI_t c11
        refine vv_lconst (v := 0) hC dX5_ways_45 (by decide) ?_
        refine vv_goto hC 58 dX5_ways_46 (by decide) ?_
        have hz := hJ12
        try simp only [if_pos c11] at hz
        first | exact hz | (simp only [if_pos c11]; exact hz)
def f_X5_ways_1_L106 (ta_people : Nat) (ta_away : Int32) (ta_unseenWays : Int64) (ta_seenHouses : Int64) (p1 : Int32) (p3 : Int64) : Nat → Nat → Int64 → Int64
  | 0, k106, l6_106 => l6_106
  | r106 + 1, k106, l6_106 => f_X5_ways_1_L106 ta_people ta_away ta_unseenWays ta_seenHouses p1 p3 r106 (k106 + 1) (if f_X8_has (f_X8_cell ta_seenHouses 1) (nI k106) = true then (if f_X8_cell p3 (nI k106) ≤ 0 then l6_106 else (l6_106 + f_X5_ways_2 ta_people ta_away ta_unseenWays ta_seenHouses p1 (f_X8_withCell p3 (nI k106) (f_X8_cell p3 (nI k106) - 1)))) else l6_106)
def f_X5_ways_1 (ta_people : Nat) (ta_away : Int32) (ta_unseenWays : Int64) (ta_seenHouses : Int64) (p1 : Int32) (p3 : Int64) : Int64 := (if ta_people ≤ 1 then (if p3 = 0 then (1 : Int64) else (0 : Int64)) else (if f_X8_has p1 1 = true then (f_X5_ways_1_L106 ta_people ta_away ta_unseenWays ta_seenHouses p1 p3 4 0 (if f_X8_cell ta_unseenWays 1 = 0 then (0 : Int64) else ((f_X8_cell ta_unseenWays 1).toInt64 * f_X5_ways_2 ta_people ta_away ta_unseenWays ta_seenHouses p1 p3))) else (if f_X8_has ta_away 1 = true then (0 : Int64) else f_X5_ways_2 ta_people ta_away ta_unseenWays ta_seenHouses p1 p3)))
set_option maxHeartbeats 4000000 in
set_option maxRecDepth 100000 in
theorem c_X5_ways_1 (g : GT) (w0 : Wd) (a_ta : Nat) (a_fits : Nat) (a_left : Nat) (a_needs : Nat) (ta_people : Nat) (ta_away : Int32) (ta_unseenWays : Int64) (ta_seenHouses : Int64) (p1 : Int32) (p3 : Int64) (htp : ta_people ≤ 6) (h_ta : w0 a_ta = some (.inr (5, cTa a_fits a_left a_needs (ta_people, ta_away, ta_unseenWays, ta_seenHouses)))) : CT g yX5_ways cX5_ways 11 (some .long) 5 150 0 0 w0 [.ref a_ta, .int p1, .int 1, .long p3] (fun r w2 => r = some (.long (f_X5_ways_1 ta_people ta_away ta_unseenWays ta_seenHouses p1 p3)) ∧ w0 = w2) := by
  refine CT.of (own := RX5) (by decide +kernel) rfl (Nat.le_of_ble_eq_true rfl) (fun X hC hR hI => ?_)
  show V g X 11 w0 0 0 0 [(0, .ref a_ta), (1, .int p1), (2, .int 1), (3, .long p3)] []
  refine vv_iload_n hC 2 dX5_ways_0 rfl rfl ?_
  refine vv_aload_n hC 0 dX5_ways_1 rfl rfl ?_
  refine vv_get (v := .int (nI ta_people)) hC fl_X5_22 dX5_ways_2 h_ta rfl ?_
  refine vv_icmp_ge hC 14 dX5_ways_5 (by decide) (fun c1 => ?_) (fun c1 => ?_)
  · have c1 : ta_people ≤ 1 := (nI_le_ (a := ta_people) (b := 1) (by omega) (by omega)).mp c1
    refine vv_lload_n hC 3 dX5_ways_14 rfl rfl ?_
    refine vv_lconst (v := 0) hC dX5_ways_15 (by decide) ?_
    refine vv_lcmp hC dX5_ways_16 ?_
    have hJ3 : V g X 11 w0 0 0 25 [(0, .ref a_ta), (1, .int p1), (2, .int 1), (3, .long p3)] [.long (if p3 = 0 then (1 : Int64) else (0 : Int64))] := by
      have hf : (f_X5_ways_1 ta_people ta_away ta_unseenWays ta_seenHouses p1 p3) = (if p3 = 0 then (1 : Int64) else (0 : Int64)) := by first | (simp only [f_X5_ways_1, if_pos c1]; done) | rfl | (simp only [f_X5_ways_1, if_pos c1]; rfl)
      refine vv_lret hC hR rfl dX5_ways_25 (by omega) (by omega) ?_
      rw [hf]
      exact ⟨rfl, rfl⟩
    refine vv_if_ne hC 24 dX5_ways_17 (by decide) (fun c2 => ?_) (fun c2 => ?_)
    · have c2 : ¬ (p3 = 0) := lc_ne c2
      refine vv_lconst (v := 0) hC dX5_ways_24 (by decide) ?_
      have hz := hJ3
      try simp only [if_neg c2] at hz
      first | exact hz | (simp only [if_neg c2]; exact hz)
    · have c2 : p3 = 0 := lc_eq c2
      refine vv_lconst (v := 1) hC dX5_ways_20 (by decide) ?_
      refine vv_goto hC 25 dX5_ways_21 (by decide) ?_
      have hz := hJ3
      try simp only [if_pos c2] at hz
      first | exact hz | (simp only [if_pos c2]; exact hz)
  · have c1 : ¬ (ta_people ≤ 1) := fun z => c1 ((nI_le_ (a := ta_people) (b := 1) (by omega) (by omega)).mpr z)
    refine vv_iload_n hC 2 dX5_ways_8 rfl rfl ?_
    refine vv_bipush (v := (6)) hC dX5_ways_9 (by decide) ?_
    refine vv_icmp_lt hC 26 dX5_ways_11 (by decide) (fun _ => ?_) (fun c => absurd (by decide) c)
    refine vv_iload_n hC 1 dX5_ways_26 rfl rfl ?_
    refine vv_iload_n hC 2 dX5_ways_27 rfl rfl ?_
    refine vv_callSN hC dX5_ways_28 md_X8_has lk_n_X5_70 lk_t_X8_has (As := [.int p1, .int 1]) (rest := []) (c_X8_has g w0 p1 1) rfl rfl (Nat.le_of_ble_eq_true rfl) ⟨by decide, by decide, by decide, by decide⟩ (fun r w9 hq => ?_)
    obtain ⟨rfl, rfl⟩ := hq
    show V g X 11 w0 0 0 31 [(0, .ref a_ta), (1, .int p1), (2, .int 1), (3, .long p3)] [.int (bI (f_X8_has p1 1))]
    refine vv_if_ne hC 59 dX5_ways_31 (by decide) (fun c4 => ?_) (fun c4 => ?_)
    · have c4 : f_X8_has p1 1 = true := bI_t c4
      refine vv_aload_n hC 0 dX5_ways_59 rfl rfl ?_
      refine vv_get (v := .long ta_unseenWays) hC fl_X5_29 dX5_ways_60 h_ta rfl ?_
      refine vv_iload_n hC 2 dX5_ways_63 rfl rfl ?_
      refine vv_callSN hC dX5_ways_64 md_X8_cell lk_n_X5_83 lk_t_X8_cell (As := [.long ta_unseenWays, .int 1]) (rest := []) (c_X8_cell g w0 ta_unseenWays 1) rfl rfl (Nat.le_of_ble_eq_true rfl) ⟨by decide, by decide, by decide, by decide⟩ (fun r w9 hq => ?_)
      obtain ⟨rfl, rfl⟩ := hq
      show V g X 11 w0 0 0 67 [(0, .ref a_ta), (1, .int p1), (2, .int 1), (3, .long p3)] [.int (f_X8_cell ta_unseenWays 1)]
      refine vv_istore (lv2 := [(5, .int (f_X8_cell ta_unseenWays 1)), (0, .ref a_ta), (1, .int p1), (2, .int 1), (3, .long p3)]) hC dX5_ways_67 (by decide) rfl ?_
      refine vv_iload hC 0 dX5_ways_69 rfl ?_
      have hJ6 : V g X 11 w0 0 0 91 [(0, .ref a_ta), (1, .int p1), (2, .int 1), (3, .long p3), (5, .int (f_X8_cell ta_unseenWays 1))] [.long (if f_X8_cell ta_unseenWays 1 = 0 then (0 : Int64) else ((f_X8_cell ta_unseenWays 1).toInt64 * f_X5_ways_2 ta_people ta_away ta_unseenWays ta_seenHouses p1 p3))] := by
        refine vv_lstore (lv2 := [(6, .long (if f_X8_cell ta_unseenWays 1 = 0 then (0 : Int64) else ((f_X8_cell ta_unseenWays 1).toInt64 * f_X5_ways_2 ta_people ta_away ta_unseenWays ta_seenHouses p1 p3))), (0, .ref a_ta), (1, .int p1), (2, .int 1), (3, .long p3), (5, .int (f_X8_cell ta_unseenWays 1))]) hC dX5_ways_91 (by decide) rfl ?_
        refine vv_aload_n hC 1 dX5_ways_93 rfl rfl ?_
        refine vv_get (v := .long ta_seenHouses) hC fl_X5_33 dX5_ways_94 h_ta rfl ?_
        refine vv_iload_n hC 3 dX5_ways_97 rfl rfl ?_
        refine vv_callSN hC dX5_ways_98 md_X8_cell lk_n_X5_83 lk_t_X8_cell (As := [.long ta_seenHouses, .int 1]) (rest := []) (c_X8_cell g w0 ta_seenHouses 1) rfl rfl (Nat.le_of_ble_eq_true rfl) ⟨by decide, by decide, by decide, by decide⟩ (fun r w9 hq => ?_)
        obtain ⟨rfl, rfl⟩ := hq
        show V g X 11 w0 0 0 101 [(6, .long (if f_X8_cell ta_unseenWays 1 = 0 then (0 : Int64) else ((f_X8_cell ta_unseenWays 1).toInt64 * f_X5_ways_2 ta_people ta_away ta_unseenWays ta_seenHouses p1 p3))), (0, .ref a_ta), (1, .int p1), (2, .int 1), (3, .long p3), (5, .int (f_X8_cell ta_unseenWays 1))] [.int (f_X8_cell ta_seenHouses 1)]
        refine vv_istore (lv2 := [(8, .int (f_X8_cell ta_seenHouses 1)), (6, .long (if f_X8_cell ta_unseenWays 1 = 0 then (0 : Int64) else ((f_X8_cell ta_unseenWays 1).toInt64 * f_X5_ways_2 ta_people ta_away ta_unseenWays ta_seenHouses p1 p3))), (0, .ref a_ta), (1, .int p1), (2, .int 1), (3, .long p3), (5, .int (f_X8_cell ta_unseenWays 1))]) hC dX5_ways_101 (by decide) rfl ?_
        refine vv_iconst (v := 0) hC dX5_ways_103 (by decide) ?_
        refine vv_istore (lv2 := [(9, .int 0), (8, .int (f_X8_cell ta_seenHouses 1)), (6, .long (if f_X8_cell ta_unseenWays 1 = 0 then (0 : Int64) else ((f_X8_cell ta_unseenWays 1).toInt64 * f_X5_ways_2 ta_people ta_away ta_unseenWays ta_seenHouses p1 p3))), (0, .ref a_ta), (1, .int p1), (2, .int 1), (3, .long p3), (5, .int (f_X8_cell ta_unseenWays 1))]) hC dX5_ways_104 (by decide) rfl ?_
        have hL10 : ∀ (r106 k106 : Nat) (l6_106 : Int64) (out : Int64), k106 + r106 = 4 → out = f_X5_ways_1_L106 ta_people ta_away ta_unseenWays ta_seenHouses p1 p3 r106 k106 l6_106 → V g X 11 w0 0 0 164 [(0, .ref a_ta), (1, .int p1), (2, .int 1), (3, .long p3), (5, .int (f_X8_cell ta_unseenWays 1)), (6, .long out), (8, .int (f_X8_cell ta_seenHouses 1))] [] → V g X 11 w0 0 0 106 [(0, .ref a_ta), (1, .int p1), (2, .int 1), (3, .long p3), (5, .int (f_X8_cell ta_unseenWays 1)), (6, .long l6_106), (8, .int (f_X8_cell ta_seenHouses 1)), (9, .int (nI k106))] [] := by
          intro r106
          induction r106 with
          | zero =>
            intro k106 l6_106 out hb ho hk
            refine vv_iload hC 7 dX5_ways_106 rfl ?_
            refine vv_iconst (v := 4) hC dX5_ways_108 (by decide) ?_
            refine vv_icmp_ge hC 164 dX5_ways_109 (by decide) (fun c => ?_) (fun c => False.elim (c ((nI_le_ (a := 4) (b := k106) (by omega) (by omega)).mpr (by omega))))
            refine vv_lv [0, 1, 2, 3, 4, 5, 6] rfl ?_
            have ho := ho.trans (by first | (simp only [f_X5_ways_1_L106]; done) | rfl | (simp only [f_X5_ways_1_L106]; rfl) : _ = l6_106)
            subst ho
            exact hk
          | succ r106 ih =>
            intro k106 l6_106 out hb ho hk
            refine vv_iload hC 7 dX5_ways_106 rfl ?_
            refine vv_iconst (v := 4) hC dX5_ways_108 (by decide) ?_
            refine vv_icmp_ge hC 164 dX5_ways_109 (by decide) (fun c => absurd ((nI_le_ (a := 4) (b := k106) (by omega) (by omega)).mp c) (by first | omega | decide)) (fun c => ?_)
            refine vv_lload_n hC 3 dX5_ways_112 rfl rfl ?_
            refine vv_iload hC 7 dX5_ways_113 rfl ?_
            refine vv_callSN hC dX5_ways_115 md_X8_cell lk_n_X5_83 lk_t_X8_cell (As := [.long p3, .int (nI k106)]) (rest := []) (c_X8_cell g w0 p3 (nI k106)) rfl rfl (Nat.le_of_ble_eq_true rfl) ⟨by decide, by decide, by decide, by decide⟩ (fun r w9 hq => ?_)
            obtain ⟨rfl, rfl⟩ := hq
            show V g X 11 w0 0 0 118 [(0, .ref a_ta), (1, .int p1), (2, .int 1), (3, .long p3), (5, .int (f_X8_cell ta_unseenWays 1)), (6, .long l6_106), (8, .int (f_X8_cell ta_seenHouses 1)), (9, .int (nI k106))] [.int (f_X8_cell p3 (nI k106))]
            refine vv_istore (lv2 := [(10, .int (f_X8_cell p3 (nI k106))), (0, .ref a_ta), (1, .int p1), (2, .int 1), (3, .long p3), (5, .int (f_X8_cell ta_unseenWays 1)), (6, .long l6_106), (8, .int (f_X8_cell ta_seenHouses 1)), (9, .int (nI k106))]) hC dX5_ways_118 (by decide) rfl ?_
            refine vv_iload hC 7 dX5_ways_120 rfl ?_
            refine vv_iload hC 8 dX5_ways_122 rfl ?_
            refine vv_callSN hC dX5_ways_124 md_X8_has lk_n_X5_70 lk_t_X8_has (As := [.int (f_X8_cell ta_seenHouses 1), .int (nI k106)]) (rest := []) (c_X8_has g w0 (f_X8_cell ta_seenHouses 1) (nI k106)) rfl rfl (Nat.le_of_ble_eq_true rfl) ⟨by decide, by decide, by decide, by decide⟩ (fun r w9 hq => ?_)
            obtain ⟨rfl, rfl⟩ := hq
            show V g X 11 w0 0 0 127 [(10, .int (f_X8_cell p3 (nI k106))), (0, .ref a_ta), (1, .int p1), (2, .int 1), (3, .long p3), (5, .int (f_X8_cell ta_unseenWays 1)), (6, .long l6_106), (8, .int (f_X8_cell ta_seenHouses 1)), (9, .int (nI k106))] [.int (bI (f_X8_has (f_X8_cell ta_seenHouses 1) (nI k106)))]
            have hJ8 : V g X 11 w0 0 0 158 [(0, .ref a_ta), (1, .int p1), (2, .int 1), (3, .long p3), (5, .int (f_X8_cell ta_unseenWays 1)), (6, .long (if f_X8_has (f_X8_cell ta_seenHouses 1) (nI k106) = true then (if f_X8_cell p3 (nI k106) ≤ 0 then l6_106 else (l6_106 + f_X5_ways_2 ta_people ta_away ta_unseenWays ta_seenHouses p1 (f_X8_withCell p3 (nI k106) (f_X8_cell p3 (nI k106) - 1)))) else l6_106)), (8, .int (f_X8_cell ta_seenHouses 1)), (9, .int (nI k106)), (10, .int (f_X8_cell p3 (nI k106)))] [] := by
              refine vv_iinc (lv2 := [(9, .int (nI (k106 + 1))), (0, .ref a_ta), (1, .int p1), (2, .int 1), (3, .long p3), (5, .int (f_X8_cell ta_unseenWays 1)), (6, .long (if f_X8_has (f_X8_cell ta_seenHouses 1) (nI k106) = true then (if f_X8_cell p3 (nI k106) ≤ 0 then l6_106 else (l6_106 + f_X5_ways_2 ta_people ta_away ta_unseenWays ta_seenHouses p1 (f_X8_withCell p3 (nI k106) (f_X8_cell p3 (nI k106) - 1)))) else l6_106)), (8, .int (f_X8_cell ta_seenHouses 1)), (10, .int (f_X8_cell p3 (nI k106)))]) hC 7 dX5_ways_158 rfl (nI_add k106 1) (by decide) rfl ?_
              refine vv_goto hC 106 dX5_ways_161 (by decide) ?_
              refine vv_lv [1, 2, 3, 4, 5, 6, 7, 0] rfl ?_
              exact ih (k106 + 1) (if f_X8_has (f_X8_cell ta_seenHouses 1) (nI k106) = true then (if f_X8_cell p3 (nI k106) ≤ 0 then l6_106 else (l6_106 + f_X5_ways_2 ta_people ta_away ta_unseenWays ta_seenHouses p1 (f_X8_withCell p3 (nI k106) (f_X8_cell p3 (nI k106) - 1)))) else l6_106) out (by omega) (ho.trans (by first | (simp only [f_X5_ways_1_L106]; done) | rfl | (simp only [f_X5_ways_1_L106]; rfl))) hk
            refine vv_if_eq hC 158 dX5_ways_127 (by decide) (fun c7 => ?_) (fun c7 => ?_)
            · have c7 : ¬ (f_X8_has (f_X8_cell ta_seenHouses 1) (nI k106) = true) := bI_f c7
              refine vv_lv [1, 2, 3, 4, 5, 6, 7, 8, 0] rfl ?_
              have hz := hJ8
              try simp only [if_neg c7] at hz
              first | exact hz | (simp only [if_neg c7]; exact hz)
            · have c7 : f_X8_has (f_X8_cell ta_seenHouses 1) (nI k106) = true := bI_t c7
              refine vv_iload hC 0 dX5_ways_130 rfl ?_
              refine vv_if_le hC 158 dX5_ways_132 (by decide) (fun c9 => ?_) (fun c9 => ?_)
              · have c9 : f_X8_cell p3 (nI k106) ≤ 0 := c9
                refine vv_lv [1, 2, 3, 4, 5, 6, 7, 8, 0] rfl ?_
                have hz := hJ8
                try simp only [if_pos c7, if_pos c9] at hz
                first | exact hz | (simp only [if_pos c7, if_pos c9]; exact hz)
              · have c9 : ¬ (f_X8_cell p3 (nI k106) ≤ 0) := c9
                refine vv_lload hC 6 dX5_ways_135 rfl ?_
                refine vv_aload_n hC 1 dX5_ways_137 rfl rfl ?_
                refine vv_iload_n hC 2 dX5_ways_138 rfl rfl ?_
                refine vv_iload_n hC 3 dX5_ways_139 rfl rfl ?_
                refine vv_iconst (v := 1) hC dX5_ways_140 (by decide) ?_
                refine vv_iadd hC dX5_ways_141 ?_
                refine vv_topi (2) (by decide) ?_
                refine vv_lload_n hC 4 dX5_ways_142 rfl rfl ?_
                refine vv_iload hC 8 dX5_ways_143 rfl ?_
                refine vv_iload hC 0 dX5_ways_145 rfl ?_
                refine vv_iconst (v := 1) hC dX5_ways_147 (by decide) ?_
                refine vv_isub hC dX5_ways_148 ?_
                refine vv_callSN hC dX5_ways_149 md_X8_withCell lk_n_X5_89 lk_t_X8_withCell (As := [.long p3, .int (nI k106), .int (f_X8_cell p3 (nI k106) - 1)]) (rest := [.int 2, .int p1, .ref a_ta, .long l6_106]) (c_X8_withCell g w0 p3 (nI k106) (f_X8_cell p3 (nI k106) - 1)) rfl rfl (Nat.le_of_ble_eq_true rfl) ⟨by decide, by decide, by decide, by decide⟩ (fun r w9 hq => ?_)
                obtain ⟨rfl, rfl⟩ := hq
                show V g X 11 w0 0 0 152 [(10, .int (f_X8_cell p3 (nI k106))), (0, .ref a_ta), (1, .int p1), (2, .int 1), (3, .long p3), (5, .int (f_X8_cell ta_unseenWays 1)), (6, .long l6_106), (8, .int (f_X8_cell ta_seenHouses 1)), (9, .int (nI k106))] [.long (f_X8_withCell p3 (nI k106) (f_X8_cell p3 (nI k106) - 1)), .int 2, .int p1, .ref a_ta, .long l6_106]
                refine vv_callV hC dX5_ways_152 md_X5_ways lk_m_X5_53 lk_i_X5_ways lk_s_X5_ways h_ta rfl (As := [.int p1, .int 2, .long (f_X8_withCell p3 (nI k106) (f_X8_cell p3 (nI k106) - 1))]) (rest := [.long l6_106]) (c_X5_ways_2 g w0 a_ta a_fits a_left a_needs ta_people ta_away ta_unseenWays ta_seenHouses p1 (f_X8_withCell p3 (nI k106) (f_X8_cell p3 (nI k106) - 1)) (by omega) h_ta) rfl rfl (Nat.le_of_ble_eq_true rfl) ⟨by decide, by decide, by decide, by decide⟩ (fun r w9 hq => ?_)
                obtain ⟨rfl, rfl⟩ := hq
                show V g X 11 w0 0 0 155 [(10, .int (f_X8_cell p3 (nI k106))), (0, .ref a_ta), (1, .int p1), (2, .int 1), (3, .long p3), (5, .int (f_X8_cell ta_unseenWays 1)), (6, .long l6_106), (8, .int (f_X8_cell ta_seenHouses 1)), (9, .int (nI k106))] [.long (f_X5_ways_2 ta_people ta_away ta_unseenWays ta_seenHouses p1 (f_X8_withCell p3 (nI k106) (f_X8_cell p3 (nI k106) - 1))), .long l6_106]
                refine vv_ladd hC dX5_ways_155 ?_
                refine vv_lstore (lv2 := [(6, .long (l6_106 + f_X5_ways_2 ta_people ta_away ta_unseenWays ta_seenHouses p1 (f_X8_withCell p3 (nI k106) (f_X8_cell p3 (nI k106) - 1)))), (10, .int (f_X8_cell p3 (nI k106))), (0, .ref a_ta), (1, .int p1), (2, .int 1), (3, .long p3), (5, .int (f_X8_cell ta_unseenWays 1)), (8, .int (f_X8_cell ta_seenHouses 1)), (9, .int (nI k106))]) hC dX5_ways_156 (by decide) rfl ?_
                refine vv_lv [2, 3, 4, 5, 6, 0, 7, 8, 1] rfl ?_
                have hz := hJ8
                try simp only [if_pos c7, if_neg c9] at hz
                first | exact hz | (simp only [if_pos c7, if_neg c9]; exact hz)
        refine vv_lv [3, 4, 5, 6, 7, 2, 1, 0] rfl ?_
        refine hL10 4 0 (if f_X8_cell ta_unseenWays 1 = 0 then (0 : Int64) else ((f_X8_cell ta_unseenWays 1).toInt64 * f_X5_ways_2 ta_people ta_away ta_unseenWays ta_seenHouses p1 p3)) (f_X5_ways_1_L106 ta_people ta_away ta_unseenWays ta_seenHouses p1 p3 4 0 (if f_X8_cell ta_unseenWays 1 = 0 then (0 : Int64) else ((f_X8_cell ta_unseenWays 1).toInt64 * f_X5_ways_2 ta_people ta_away ta_unseenWays ta_seenHouses p1 p3))) (by omega) rfl ?_
        refine vv_lload hC 5 dX5_ways_164 rfl ?_
        have hf : (f_X5_ways_1 ta_people ta_away ta_unseenWays ta_seenHouses p1 p3) = (f_X5_ways_1_L106 ta_people ta_away ta_unseenWays ta_seenHouses p1 p3 4 0 (if f_X8_cell ta_unseenWays 1 = 0 then (0 : Int64) else ((f_X8_cell ta_unseenWays 1).toInt64 * f_X5_ways_2 ta_people ta_away ta_unseenWays ta_seenHouses p1 p3))) := by first | (simp only [f_X5_ways_1, if_neg c1, if_pos c4]; done) | rfl | (simp only [f_X5_ways_1, if_neg c1, if_pos c4]; rfl)
        refine vv_lret hC hR rfl dX5_ways_166 (by omega) (by omega) ?_
        rw [hf]
        exact ⟨rfl, rfl⟩
      refine vv_if_ne hC 78 dX5_ways_71 (by decide) (fun c5 => ?_) (fun c5 => ?_)
      · have c5 : ¬ (f_X8_cell ta_unseenWays 1 = 0) := c5
        refine vv_iload hC 0 dX5_ways_78 rfl ?_
        refine vv_i2l hC dX5_ways_80 ?_
        refine vv_aload_n hC 1 dX5_ways_81 rfl rfl ?_
        refine vv_iload_n hC 2 dX5_ways_82 rfl rfl ?_
        refine vv_iload_n hC 3 dX5_ways_83 rfl rfl ?_
        refine vv_iconst (v := 1) hC dX5_ways_84 (by decide) ?_
        refine vv_iadd hC dX5_ways_85 ?_
        refine vv_topi (2) (by decide) ?_
        refine vv_lload_n hC 4 dX5_ways_86 rfl rfl ?_
        refine vv_callV hC dX5_ways_87 md_X5_ways lk_m_X5_53 lk_i_X5_ways lk_s_X5_ways h_ta rfl (As := [.int p1, .int 2, .long p3]) (rest := [.long ((f_X8_cell ta_unseenWays 1).toInt64)]) (c_X5_ways_2 g w0 a_ta a_fits a_left a_needs ta_people ta_away ta_unseenWays ta_seenHouses p1 p3 (by omega) h_ta) rfl rfl (Nat.le_of_ble_eq_true rfl) ⟨by decide, by decide, by decide, by decide⟩ (fun r w9 hq => ?_)
        obtain ⟨rfl, rfl⟩ := hq
        show V g X 11 w0 0 0 90 [(5, .int (f_X8_cell ta_unseenWays 1)), (0, .ref a_ta), (1, .int p1), (2, .int 1), (3, .long p3)] [.long (f_X5_ways_2 ta_people ta_away ta_unseenWays ta_seenHouses p1 p3), .long ((f_X8_cell ta_unseenWays 1).toInt64)]
        refine vv_lmul hC dX5_ways_90 ?_
        refine vv_lv [1, 2, 3, 4, 0] rfl ?_
        have hz := hJ6
        try simp only [if_neg c5] at hz
        first | exact hz | (simp only [if_neg c5]; exact hz)
      · have c5 : f_X8_cell ta_unseenWays 1 = 0 := c5
        refine vv_lconst (v := 0) hC dX5_ways_74 (by decide) ?_
        refine vv_goto hC 91 dX5_ways_75 (by decide) ?_
        refine vv_lv [1, 2, 3, 4, 0] rfl ?_
        have hz := hJ6
        try simp only [if_pos c5] at hz
        first | exact hz | (simp only [if_pos c5]; exact hz)
    · have c4 : ¬ (f_X8_has p1 1 = true) := bI_f c4
      refine vv_aload_n hC 0 dX5_ways_34 rfl rfl ?_
      refine vv_get (v := .int ta_away) hC fl_X5_26 dX5_ways_35 h_ta rfl ?_
      refine vv_iload_n hC 2 dX5_ways_38 rfl rfl ?_
      refine vv_callSN hC dX5_ways_39 md_X8_has lk_n_X5_70 lk_t_X8_has (As := [.int ta_away, .int 1]) (rest := []) (c_X8_has g w0 ta_away 1) rfl rfl (Nat.le_of_ble_eq_true rfl) ⟨by decide, by decide, by decide, by decide⟩ (fun r w9 hq => ?_)
      obtain ⟨rfl, rfl⟩ := hq
      show V g X 11 w0 0 0 42 [(0, .ref a_ta), (1, .int p1), (2, .int 1), (3, .long p3)] [.int (bI (f_X8_has ta_away 1))]
      have hJ12 : V g X 11 w0 0 0 58 [(0, .ref a_ta), (1, .int p1), (2, .int 1), (3, .long p3)] [.long (if f_X8_has ta_away 1 = true then (0 : Int64) else f_X5_ways_2 ta_people ta_away ta_unseenWays ta_seenHouses p1 p3)] := by
        have hf : (f_X5_ways_1 ta_people ta_away ta_unseenWays ta_seenHouses p1 p3) = (if f_X8_has ta_away 1 = true then (0 : Int64) else f_X5_ways_2 ta_people ta_away ta_unseenWays ta_seenHouses p1 p3) := by first | (simp only [f_X5_ways_1, if_neg c1, if_neg c4]; done) | rfl | (simp only [f_X5_ways_1, if_neg c1, if_neg c4]; rfl)
        refine vv_lret hC hR rfl dX5_ways_58 (by omega) (by omega) ?_
        rw [hf]
        exact ⟨rfl, rfl⟩
      refine vv_if_eq hC 49 dX5_ways_42 (by decide) (fun c11 => ?_) (fun c11 => ?_)
      · have c11 : ¬ (f_X8_has ta_away 1 = true) := bI_f c11
        refine vv_aload_n hC 0 dX5_ways_49 rfl rfl ?_
        refine vv_iload_n hC 1 dX5_ways_50 rfl rfl ?_
        refine vv_iload_n hC 2 dX5_ways_51 rfl rfl ?_
        refine vv_iconst (v := 1) hC dX5_ways_52 (by decide) ?_
        refine vv_iadd hC dX5_ways_53 ?_
        refine vv_topi (2) (by decide) ?_
        refine vv_lload_n hC 3 dX5_ways_54 rfl rfl ?_
        refine vv_callV hC dX5_ways_55 md_X5_ways lk_m_X5_53 lk_i_X5_ways lk_s_X5_ways h_ta rfl (As := [.int p1, .int 2, .long p3]) (rest := []) (c_X5_ways_2 g w0 a_ta a_fits a_left a_needs ta_people ta_away ta_unseenWays ta_seenHouses p1 p3 (by omega) h_ta) rfl rfl (Nat.le_of_ble_eq_true rfl) ⟨by decide, by decide, by decide, by decide⟩ (fun r w9 hq => ?_)
        obtain ⟨rfl, rfl⟩ := hq
        show V g X 11 w0 0 0 58 [(0, .ref a_ta), (1, .int p1), (2, .int 1), (3, .long p3)] [.long (f_X5_ways_2 ta_people ta_away ta_unseenWays ta_seenHouses p1 p3)]
        have hz := hJ12
        try simp only [if_neg c11] at hz
        first | exact hz | (simp only [if_neg c11]; exact hz)
      · have c11 : f_X8_has ta_away 1 = true := bI_t c11
        refine vv_lconst (v := 0) hC dX5_ways_45 (by decide) ?_
        refine vv_goto hC 58 dX5_ways_46 (by decide) ?_
        have hz := hJ12
        try simp only [if_pos c11] at hz
        first | exact hz | (simp only [if_pos c11]; exact hz)
def f_X5_ways_0_L106 (ta_people : Nat) (ta_away : Int32) (ta_unseenWays : Int64) (ta_seenHouses : Int64) (p1 : Int32) (p3 : Int64) : Nat → Nat → Int64 → Int64
  | 0, k106, l6_106 => l6_106
  | r106 + 1, k106, l6_106 => f_X5_ways_0_L106 ta_people ta_away ta_unseenWays ta_seenHouses p1 p3 r106 (k106 + 1) (if f_X8_has (f_X8_cell ta_seenHouses 0) (nI k106) = true then (if f_X8_cell p3 (nI k106) ≤ 0 then l6_106 else (l6_106 + f_X5_ways_1 ta_people ta_away ta_unseenWays ta_seenHouses p1 (f_X8_withCell p3 (nI k106) (f_X8_cell p3 (nI k106) - 1)))) else l6_106)
def f_X5_ways_0 (ta_people : Nat) (ta_away : Int32) (ta_unseenWays : Int64) (ta_seenHouses : Int64) (p1 : Int32) (p3 : Int64) : Int64 := (if ta_people ≤ 0 then (if p3 = 0 then (1 : Int64) else (0 : Int64)) else (if f_X8_has p1 0 = true then (f_X5_ways_0_L106 ta_people ta_away ta_unseenWays ta_seenHouses p1 p3 4 0 (if f_X8_cell ta_unseenWays 0 = 0 then (0 : Int64) else ((f_X8_cell ta_unseenWays 0).toInt64 * f_X5_ways_1 ta_people ta_away ta_unseenWays ta_seenHouses p1 p3))) else (if f_X8_has ta_away 0 = true then (0 : Int64) else f_X5_ways_1 ta_people ta_away ta_unseenWays ta_seenHouses p1 p3)))
set_option maxHeartbeats 4000000 in
set_option maxRecDepth 100000 in
theorem c_X5_ways_0 (g : GT) (w0 : Wd) (a_ta : Nat) (a_fits : Nat) (a_left : Nat) (a_needs : Nat) (ta_people : Nat) (ta_away : Int32) (ta_unseenWays : Int64) (ta_seenHouses : Int64) (p1 : Int32) (p3 : Int64) (htp : ta_people ≤ 6) (h_ta : w0 a_ta = some (.inr (5, cTa a_fits a_left a_needs (ta_people, ta_away, ta_unseenWays, ta_seenHouses)))) : CT g yX5_ways cX5_ways 11 (some .long) 6 180 0 0 w0 [.ref a_ta, .int p1, .int 0, .long p3] (fun r w2 => r = some (.long (f_X5_ways_0 ta_people ta_away ta_unseenWays ta_seenHouses p1 p3)) ∧ w0 = w2) := by
  refine CT.of (own := RX5) (by decide +kernel) rfl (Nat.le_of_ble_eq_true rfl) (fun X hC hR hI => ?_)
  show V g X 11 w0 0 0 0 [(0, .ref a_ta), (1, .int p1), (2, .int 0), (3, .long p3)] []
  refine vv_iload_n hC 2 dX5_ways_0 rfl rfl ?_
  refine vv_aload_n hC 0 dX5_ways_1 rfl rfl ?_
  refine vv_get (v := .int (nI ta_people)) hC fl_X5_22 dX5_ways_2 h_ta rfl ?_
  refine vv_icmp_ge hC 14 dX5_ways_5 (by decide) (fun c1 => ?_) (fun c1 => ?_)
  · have c1 : ta_people ≤ 0 := (nI_le_ (a := ta_people) (b := 0) (by omega) (by omega)).mp c1
    refine vv_lload_n hC 3 dX5_ways_14 rfl rfl ?_
    refine vv_lconst (v := 0) hC dX5_ways_15 (by decide) ?_
    refine vv_lcmp hC dX5_ways_16 ?_
    have hJ3 : V g X 11 w0 0 0 25 [(0, .ref a_ta), (1, .int p1), (2, .int 0), (3, .long p3)] [.long (if p3 = 0 then (1 : Int64) else (0 : Int64))] := by
      have hf : (f_X5_ways_0 ta_people ta_away ta_unseenWays ta_seenHouses p1 p3) = (if p3 = 0 then (1 : Int64) else (0 : Int64)) := by first | (simp only [f_X5_ways_0, if_pos c1]; done) | rfl | (simp only [f_X5_ways_0, if_pos c1]; rfl)
      refine vv_lret hC hR rfl dX5_ways_25 (by omega) (by omega) ?_
      rw [hf]
      exact ⟨rfl, rfl⟩
    refine vv_if_ne hC 24 dX5_ways_17 (by decide) (fun c2 => ?_) (fun c2 => ?_)
    · have c2 : ¬ (p3 = 0) := lc_ne c2
      refine vv_lconst (v := 0) hC dX5_ways_24 (by decide) ?_
      have hz := hJ3
      try simp only [if_neg c2] at hz
      first | exact hz | (simp only [if_neg c2]; exact hz)
    · have c2 : p3 = 0 := lc_eq c2
      refine vv_lconst (v := 1) hC dX5_ways_20 (by decide) ?_
      refine vv_goto hC 25 dX5_ways_21 (by decide) ?_
      have hz := hJ3
      try simp only [if_pos c2] at hz
      first | exact hz | (simp only [if_pos c2]; exact hz)
  · have c1 : ¬ (ta_people ≤ 0) := fun z => c1 ((nI_le_ (a := ta_people) (b := 0) (by omega) (by omega)).mpr z)
    refine vv_iload_n hC 2 dX5_ways_8 rfl rfl ?_
    refine vv_bipush (v := (6)) hC dX5_ways_9 (by decide) ?_
    refine vv_icmp_lt hC 26 dX5_ways_11 (by decide) (fun _ => ?_) (fun c => absurd (by decide) c)
    refine vv_iload_n hC 1 dX5_ways_26 rfl rfl ?_
    refine vv_iload_n hC 2 dX5_ways_27 rfl rfl ?_
    refine vv_callSN hC dX5_ways_28 md_X8_has lk_n_X5_70 lk_t_X8_has (As := [.int p1, .int 0]) (rest := []) (c_X8_has g w0 p1 0) rfl rfl (Nat.le_of_ble_eq_true rfl) ⟨by decide, by decide, by decide, by decide⟩ (fun r w9 hq => ?_)
    obtain ⟨rfl, rfl⟩ := hq
    show V g X 11 w0 0 0 31 [(0, .ref a_ta), (1, .int p1), (2, .int 0), (3, .long p3)] [.int (bI (f_X8_has p1 0))]
    refine vv_if_ne hC 59 dX5_ways_31 (by decide) (fun c4 => ?_) (fun c4 => ?_)
    · have c4 : f_X8_has p1 0 = true := bI_t c4
      refine vv_aload_n hC 0 dX5_ways_59 rfl rfl ?_
      refine vv_get (v := .long ta_unseenWays) hC fl_X5_29 dX5_ways_60 h_ta rfl ?_
      refine vv_iload_n hC 2 dX5_ways_63 rfl rfl ?_
      refine vv_callSN hC dX5_ways_64 md_X8_cell lk_n_X5_83 lk_t_X8_cell (As := [.long ta_unseenWays, .int 0]) (rest := []) (c_X8_cell g w0 ta_unseenWays 0) rfl rfl (Nat.le_of_ble_eq_true rfl) ⟨by decide, by decide, by decide, by decide⟩ (fun r w9 hq => ?_)
      obtain ⟨rfl, rfl⟩ := hq
      show V g X 11 w0 0 0 67 [(0, .ref a_ta), (1, .int p1), (2, .int 0), (3, .long p3)] [.int (f_X8_cell ta_unseenWays 0)]
      refine vv_istore (lv2 := [(5, .int (f_X8_cell ta_unseenWays 0)), (0, .ref a_ta), (1, .int p1), (2, .int 0), (3, .long p3)]) hC dX5_ways_67 (by decide) rfl ?_
      refine vv_iload hC 0 dX5_ways_69 rfl ?_
      have hJ6 : V g X 11 w0 0 0 91 [(0, .ref a_ta), (1, .int p1), (2, .int 0), (3, .long p3), (5, .int (f_X8_cell ta_unseenWays 0))] [.long (if f_X8_cell ta_unseenWays 0 = 0 then (0 : Int64) else ((f_X8_cell ta_unseenWays 0).toInt64 * f_X5_ways_1 ta_people ta_away ta_unseenWays ta_seenHouses p1 p3))] := by
        refine vv_lstore (lv2 := [(6, .long (if f_X8_cell ta_unseenWays 0 = 0 then (0 : Int64) else ((f_X8_cell ta_unseenWays 0).toInt64 * f_X5_ways_1 ta_people ta_away ta_unseenWays ta_seenHouses p1 p3))), (0, .ref a_ta), (1, .int p1), (2, .int 0), (3, .long p3), (5, .int (f_X8_cell ta_unseenWays 0))]) hC dX5_ways_91 (by decide) rfl ?_
        refine vv_aload_n hC 1 dX5_ways_93 rfl rfl ?_
        refine vv_get (v := .long ta_seenHouses) hC fl_X5_33 dX5_ways_94 h_ta rfl ?_
        refine vv_iload_n hC 3 dX5_ways_97 rfl rfl ?_
        refine vv_callSN hC dX5_ways_98 md_X8_cell lk_n_X5_83 lk_t_X8_cell (As := [.long ta_seenHouses, .int 0]) (rest := []) (c_X8_cell g w0 ta_seenHouses 0) rfl rfl (Nat.le_of_ble_eq_true rfl) ⟨by decide, by decide, by decide, by decide⟩ (fun r w9 hq => ?_)
        obtain ⟨rfl, rfl⟩ := hq
        show V g X 11 w0 0 0 101 [(6, .long (if f_X8_cell ta_unseenWays 0 = 0 then (0 : Int64) else ((f_X8_cell ta_unseenWays 0).toInt64 * f_X5_ways_1 ta_people ta_away ta_unseenWays ta_seenHouses p1 p3))), (0, .ref a_ta), (1, .int p1), (2, .int 0), (3, .long p3), (5, .int (f_X8_cell ta_unseenWays 0))] [.int (f_X8_cell ta_seenHouses 0)]
        refine vv_istore (lv2 := [(8, .int (f_X8_cell ta_seenHouses 0)), (6, .long (if f_X8_cell ta_unseenWays 0 = 0 then (0 : Int64) else ((f_X8_cell ta_unseenWays 0).toInt64 * f_X5_ways_1 ta_people ta_away ta_unseenWays ta_seenHouses p1 p3))), (0, .ref a_ta), (1, .int p1), (2, .int 0), (3, .long p3), (5, .int (f_X8_cell ta_unseenWays 0))]) hC dX5_ways_101 (by decide) rfl ?_
        refine vv_iconst (v := 0) hC dX5_ways_103 (by decide) ?_
        refine vv_istore (lv2 := [(9, .int 0), (8, .int (f_X8_cell ta_seenHouses 0)), (6, .long (if f_X8_cell ta_unseenWays 0 = 0 then (0 : Int64) else ((f_X8_cell ta_unseenWays 0).toInt64 * f_X5_ways_1 ta_people ta_away ta_unseenWays ta_seenHouses p1 p3))), (0, .ref a_ta), (1, .int p1), (2, .int 0), (3, .long p3), (5, .int (f_X8_cell ta_unseenWays 0))]) hC dX5_ways_104 (by decide) rfl ?_
        have hL10 : ∀ (r106 k106 : Nat) (l6_106 : Int64) (out : Int64), k106 + r106 = 4 → out = f_X5_ways_0_L106 ta_people ta_away ta_unseenWays ta_seenHouses p1 p3 r106 k106 l6_106 → V g X 11 w0 0 0 164 [(0, .ref a_ta), (1, .int p1), (2, .int 0), (3, .long p3), (5, .int (f_X8_cell ta_unseenWays 0)), (6, .long out), (8, .int (f_X8_cell ta_seenHouses 0))] [] → V g X 11 w0 0 0 106 [(0, .ref a_ta), (1, .int p1), (2, .int 0), (3, .long p3), (5, .int (f_X8_cell ta_unseenWays 0)), (6, .long l6_106), (8, .int (f_X8_cell ta_seenHouses 0)), (9, .int (nI k106))] [] := by
          intro r106
          induction r106 with
          | zero =>
            intro k106 l6_106 out hb ho hk
            refine vv_iload hC 7 dX5_ways_106 rfl ?_
            refine vv_iconst (v := 4) hC dX5_ways_108 (by decide) ?_
            refine vv_icmp_ge hC 164 dX5_ways_109 (by decide) (fun c => ?_) (fun c => False.elim (c ((nI_le_ (a := 4) (b := k106) (by omega) (by omega)).mpr (by omega))))
            refine vv_lv [0, 1, 2, 3, 4, 5, 6] rfl ?_
            have ho := ho.trans (by first | (simp only [f_X5_ways_0_L106]; done) | rfl | (simp only [f_X5_ways_0_L106]; rfl) : _ = l6_106)
            subst ho
            exact hk
          | succ r106 ih =>
            intro k106 l6_106 out hb ho hk
            refine vv_iload hC 7 dX5_ways_106 rfl ?_
            refine vv_iconst (v := 4) hC dX5_ways_108 (by decide) ?_
            refine vv_icmp_ge hC 164 dX5_ways_109 (by decide) (fun c => absurd ((nI_le_ (a := 4) (b := k106) (by omega) (by omega)).mp c) (by first | omega | decide)) (fun c => ?_)
            refine vv_lload_n hC 3 dX5_ways_112 rfl rfl ?_
            refine vv_iload hC 7 dX5_ways_113 rfl ?_
            refine vv_callSN hC dX5_ways_115 md_X8_cell lk_n_X5_83 lk_t_X8_cell (As := [.long p3, .int (nI k106)]) (rest := []) (c_X8_cell g w0 p3 (nI k106)) rfl rfl (Nat.le_of_ble_eq_true rfl) ⟨by decide, by decide, by decide, by decide⟩ (fun r w9 hq => ?_)
            obtain ⟨rfl, rfl⟩ := hq
            show V g X 11 w0 0 0 118 [(0, .ref a_ta), (1, .int p1), (2, .int 0), (3, .long p3), (5, .int (f_X8_cell ta_unseenWays 0)), (6, .long l6_106), (8, .int (f_X8_cell ta_seenHouses 0)), (9, .int (nI k106))] [.int (f_X8_cell p3 (nI k106))]
            refine vv_istore (lv2 := [(10, .int (f_X8_cell p3 (nI k106))), (0, .ref a_ta), (1, .int p1), (2, .int 0), (3, .long p3), (5, .int (f_X8_cell ta_unseenWays 0)), (6, .long l6_106), (8, .int (f_X8_cell ta_seenHouses 0)), (9, .int (nI k106))]) hC dX5_ways_118 (by decide) rfl ?_
            refine vv_iload hC 7 dX5_ways_120 rfl ?_
            refine vv_iload hC 8 dX5_ways_122 rfl ?_
            refine vv_callSN hC dX5_ways_124 md_X8_has lk_n_X5_70 lk_t_X8_has (As := [.int (f_X8_cell ta_seenHouses 0), .int (nI k106)]) (rest := []) (c_X8_has g w0 (f_X8_cell ta_seenHouses 0) (nI k106)) rfl rfl (Nat.le_of_ble_eq_true rfl) ⟨by decide, by decide, by decide, by decide⟩ (fun r w9 hq => ?_)
            obtain ⟨rfl, rfl⟩ := hq
            show V g X 11 w0 0 0 127 [(10, .int (f_X8_cell p3 (nI k106))), (0, .ref a_ta), (1, .int p1), (2, .int 0), (3, .long p3), (5, .int (f_X8_cell ta_unseenWays 0)), (6, .long l6_106), (8, .int (f_X8_cell ta_seenHouses 0)), (9, .int (nI k106))] [.int (bI (f_X8_has (f_X8_cell ta_seenHouses 0) (nI k106)))]
            have hJ8 : V g X 11 w0 0 0 158 [(0, .ref a_ta), (1, .int p1), (2, .int 0), (3, .long p3), (5, .int (f_X8_cell ta_unseenWays 0)), (6, .long (if f_X8_has (f_X8_cell ta_seenHouses 0) (nI k106) = true then (if f_X8_cell p3 (nI k106) ≤ 0 then l6_106 else (l6_106 + f_X5_ways_1 ta_people ta_away ta_unseenWays ta_seenHouses p1 (f_X8_withCell p3 (nI k106) (f_X8_cell p3 (nI k106) - 1)))) else l6_106)), (8, .int (f_X8_cell ta_seenHouses 0)), (9, .int (nI k106)), (10, .int (f_X8_cell p3 (nI k106)))] [] := by
              refine vv_iinc (lv2 := [(9, .int (nI (k106 + 1))), (0, .ref a_ta), (1, .int p1), (2, .int 0), (3, .long p3), (5, .int (f_X8_cell ta_unseenWays 0)), (6, .long (if f_X8_has (f_X8_cell ta_seenHouses 0) (nI k106) = true then (if f_X8_cell p3 (nI k106) ≤ 0 then l6_106 else (l6_106 + f_X5_ways_1 ta_people ta_away ta_unseenWays ta_seenHouses p1 (f_X8_withCell p3 (nI k106) (f_X8_cell p3 (nI k106) - 1)))) else l6_106)), (8, .int (f_X8_cell ta_seenHouses 0)), (10, .int (f_X8_cell p3 (nI k106)))]) hC 7 dX5_ways_158 rfl (nI_add k106 1) (by decide) rfl ?_
              refine vv_goto hC 106 dX5_ways_161 (by decide) ?_
              refine vv_lv [1, 2, 3, 4, 5, 6, 7, 0] rfl ?_
              exact ih (k106 + 1) (if f_X8_has (f_X8_cell ta_seenHouses 0) (nI k106) = true then (if f_X8_cell p3 (nI k106) ≤ 0 then l6_106 else (l6_106 + f_X5_ways_1 ta_people ta_away ta_unseenWays ta_seenHouses p1 (f_X8_withCell p3 (nI k106) (f_X8_cell p3 (nI k106) - 1)))) else l6_106) out (by omega) (ho.trans (by first | (simp only [f_X5_ways_0_L106]; done) | rfl | (simp only [f_X5_ways_0_L106]; rfl))) hk
            refine vv_if_eq hC 158 dX5_ways_127 (by decide) (fun c7 => ?_) (fun c7 => ?_)
            · have c7 : ¬ (f_X8_has (f_X8_cell ta_seenHouses 0) (nI k106) = true) := bI_f c7
              refine vv_lv [1, 2, 3, 4, 5, 6, 7, 8, 0] rfl ?_
              have hz := hJ8
              try simp only [if_neg c7] at hz
              first | exact hz | (simp only [if_neg c7]; exact hz)
            · have c7 : f_X8_has (f_X8_cell ta_seenHouses 0) (nI k106) = true := bI_t c7
              refine vv_iload hC 0 dX5_ways_130 rfl ?_
              refine vv_if_le hC 158 dX5_ways_132 (by decide) (fun c9 => ?_) (fun c9 => ?_)
              · have c9 : f_X8_cell p3 (nI k106) ≤ 0 := c9
                refine vv_lv [1, 2, 3, 4, 5, 6, 7, 8, 0] rfl ?_
                have hz := hJ8
                try simp only [if_pos c7, if_pos c9] at hz
                first | exact hz | (simp only [if_pos c7, if_pos c9]; exact hz)
              · have c9 : ¬ (f_X8_cell p3 (nI k106) ≤ 0) := c9
                refine vv_lload hC 6 dX5_ways_135 rfl ?_
                refine vv_aload_n hC 1 dX5_ways_137 rfl rfl ?_
                refine vv_iload_n hC 2 dX5_ways_138 rfl rfl ?_
                refine vv_iload_n hC 3 dX5_ways_139 rfl rfl ?_
                refine vv_iconst (v := 1) hC dX5_ways_140 (by decide) ?_
                refine vv_iadd hC dX5_ways_141 ?_
                refine vv_topi (1) (by decide) ?_
                refine vv_lload_n hC 4 dX5_ways_142 rfl rfl ?_
                refine vv_iload hC 8 dX5_ways_143 rfl ?_
                refine vv_iload hC 0 dX5_ways_145 rfl ?_
                refine vv_iconst (v := 1) hC dX5_ways_147 (by decide) ?_
                refine vv_isub hC dX5_ways_148 ?_
                refine vv_callSN hC dX5_ways_149 md_X8_withCell lk_n_X5_89 lk_t_X8_withCell (As := [.long p3, .int (nI k106), .int (f_X8_cell p3 (nI k106) - 1)]) (rest := [.int 1, .int p1, .ref a_ta, .long l6_106]) (c_X8_withCell g w0 p3 (nI k106) (f_X8_cell p3 (nI k106) - 1)) rfl rfl (Nat.le_of_ble_eq_true rfl) ⟨by decide, by decide, by decide, by decide⟩ (fun r w9 hq => ?_)
                obtain ⟨rfl, rfl⟩ := hq
                show V g X 11 w0 0 0 152 [(10, .int (f_X8_cell p3 (nI k106))), (0, .ref a_ta), (1, .int p1), (2, .int 0), (3, .long p3), (5, .int (f_X8_cell ta_unseenWays 0)), (6, .long l6_106), (8, .int (f_X8_cell ta_seenHouses 0)), (9, .int (nI k106))] [.long (f_X8_withCell p3 (nI k106) (f_X8_cell p3 (nI k106) - 1)), .int 1, .int p1, .ref a_ta, .long l6_106]
                refine vv_callV hC dX5_ways_152 md_X5_ways lk_m_X5_53 lk_i_X5_ways lk_s_X5_ways h_ta rfl (As := [.int p1, .int 1, .long (f_X8_withCell p3 (nI k106) (f_X8_cell p3 (nI k106) - 1))]) (rest := [.long l6_106]) (c_X5_ways_1 g w0 a_ta a_fits a_left a_needs ta_people ta_away ta_unseenWays ta_seenHouses p1 (f_X8_withCell p3 (nI k106) (f_X8_cell p3 (nI k106) - 1)) (by omega) h_ta) rfl rfl (Nat.le_of_ble_eq_true rfl) ⟨by decide, by decide, by decide, by decide⟩ (fun r w9 hq => ?_)
                obtain ⟨rfl, rfl⟩ := hq
                show V g X 11 w0 0 0 155 [(10, .int (f_X8_cell p3 (nI k106))), (0, .ref a_ta), (1, .int p1), (2, .int 0), (3, .long p3), (5, .int (f_X8_cell ta_unseenWays 0)), (6, .long l6_106), (8, .int (f_X8_cell ta_seenHouses 0)), (9, .int (nI k106))] [.long (f_X5_ways_1 ta_people ta_away ta_unseenWays ta_seenHouses p1 (f_X8_withCell p3 (nI k106) (f_X8_cell p3 (nI k106) - 1))), .long l6_106]
                refine vv_ladd hC dX5_ways_155 ?_
                refine vv_lstore (lv2 := [(6, .long (l6_106 + f_X5_ways_1 ta_people ta_away ta_unseenWays ta_seenHouses p1 (f_X8_withCell p3 (nI k106) (f_X8_cell p3 (nI k106) - 1)))), (10, .int (f_X8_cell p3 (nI k106))), (0, .ref a_ta), (1, .int p1), (2, .int 0), (3, .long p3), (5, .int (f_X8_cell ta_unseenWays 0)), (8, .int (f_X8_cell ta_seenHouses 0)), (9, .int (nI k106))]) hC dX5_ways_156 (by decide) rfl ?_
                refine vv_lv [2, 3, 4, 5, 6, 0, 7, 8, 1] rfl ?_
                have hz := hJ8
                try simp only [if_pos c7, if_neg c9] at hz
                first | exact hz | (simp only [if_pos c7, if_neg c9]; exact hz)
        refine vv_lv [3, 4, 5, 6, 7, 2, 1, 0] rfl ?_
        refine hL10 4 0 (if f_X8_cell ta_unseenWays 0 = 0 then (0 : Int64) else ((f_X8_cell ta_unseenWays 0).toInt64 * f_X5_ways_1 ta_people ta_away ta_unseenWays ta_seenHouses p1 p3)) (f_X5_ways_0_L106 ta_people ta_away ta_unseenWays ta_seenHouses p1 p3 4 0 (if f_X8_cell ta_unseenWays 0 = 0 then (0 : Int64) else ((f_X8_cell ta_unseenWays 0).toInt64 * f_X5_ways_1 ta_people ta_away ta_unseenWays ta_seenHouses p1 p3))) (by omega) rfl ?_
        refine vv_lload hC 5 dX5_ways_164 rfl ?_
        have hf : (f_X5_ways_0 ta_people ta_away ta_unseenWays ta_seenHouses p1 p3) = (f_X5_ways_0_L106 ta_people ta_away ta_unseenWays ta_seenHouses p1 p3 4 0 (if f_X8_cell ta_unseenWays 0 = 0 then (0 : Int64) else ((f_X8_cell ta_unseenWays 0).toInt64 * f_X5_ways_1 ta_people ta_away ta_unseenWays ta_seenHouses p1 p3))) := by first | (simp only [f_X5_ways_0, if_neg c1, if_pos c4]; done) | rfl | (simp only [f_X5_ways_0, if_neg c1, if_pos c4]; rfl)
        refine vv_lret hC hR rfl dX5_ways_166 (by omega) (by omega) ?_
        rw [hf]
        exact ⟨rfl, rfl⟩
      refine vv_if_ne hC 78 dX5_ways_71 (by decide) (fun c5 => ?_) (fun c5 => ?_)
      · have c5 : ¬ (f_X8_cell ta_unseenWays 0 = 0) := c5
        refine vv_iload hC 0 dX5_ways_78 rfl ?_
        refine vv_i2l hC dX5_ways_80 ?_
        refine vv_aload_n hC 1 dX5_ways_81 rfl rfl ?_
        refine vv_iload_n hC 2 dX5_ways_82 rfl rfl ?_
        refine vv_iload_n hC 3 dX5_ways_83 rfl rfl ?_
        refine vv_iconst (v := 1) hC dX5_ways_84 (by decide) ?_
        refine vv_iadd hC dX5_ways_85 ?_
        refine vv_topi (1) (by decide) ?_
        refine vv_lload_n hC 4 dX5_ways_86 rfl rfl ?_
        refine vv_callV hC dX5_ways_87 md_X5_ways lk_m_X5_53 lk_i_X5_ways lk_s_X5_ways h_ta rfl (As := [.int p1, .int 1, .long p3]) (rest := [.long ((f_X8_cell ta_unseenWays 0).toInt64)]) (c_X5_ways_1 g w0 a_ta a_fits a_left a_needs ta_people ta_away ta_unseenWays ta_seenHouses p1 p3 (by omega) h_ta) rfl rfl (Nat.le_of_ble_eq_true rfl) ⟨by decide, by decide, by decide, by decide⟩ (fun r w9 hq => ?_)
        obtain ⟨rfl, rfl⟩ := hq
        show V g X 11 w0 0 0 90 [(5, .int (f_X8_cell ta_unseenWays 0)), (0, .ref a_ta), (1, .int p1), (2, .int 0), (3, .long p3)] [.long (f_X5_ways_1 ta_people ta_away ta_unseenWays ta_seenHouses p1 p3), .long ((f_X8_cell ta_unseenWays 0).toInt64)]
        refine vv_lmul hC dX5_ways_90 ?_
        refine vv_lv [1, 2, 3, 4, 0] rfl ?_
        have hz := hJ6
        try simp only [if_neg c5] at hz
        first | exact hz | (simp only [if_neg c5]; exact hz)
      · have c5 : f_X8_cell ta_unseenWays 0 = 0 := c5
        refine vv_lconst (v := 0) hC dX5_ways_74 (by decide) ?_
        refine vv_goto hC 91 dX5_ways_75 (by decide) ?_
        refine vv_lv [1, 2, 3, 4, 0] rfl ?_
        have hz := hJ6
        try simp only [if_pos c5] at hz
        first | exact hz | (simp only [if_pos c5]; exact hz)
    · have c4 : ¬ (f_X8_has p1 0 = true) := bI_f c4
      refine vv_aload_n hC 0 dX5_ways_34 rfl rfl ?_
      refine vv_get (v := .int ta_away) hC fl_X5_26 dX5_ways_35 h_ta rfl ?_
      refine vv_iload_n hC 2 dX5_ways_38 rfl rfl ?_
      refine vv_callSN hC dX5_ways_39 md_X8_has lk_n_X5_70 lk_t_X8_has (As := [.int ta_away, .int 0]) (rest := []) (c_X8_has g w0 ta_away 0) rfl rfl (Nat.le_of_ble_eq_true rfl) ⟨by decide, by decide, by decide, by decide⟩ (fun r w9 hq => ?_)
      obtain ⟨rfl, rfl⟩ := hq
      show V g X 11 w0 0 0 42 [(0, .ref a_ta), (1, .int p1), (2, .int 0), (3, .long p3)] [.int (bI (f_X8_has ta_away 0))]
      have hJ12 : V g X 11 w0 0 0 58 [(0, .ref a_ta), (1, .int p1), (2, .int 0), (3, .long p3)] [.long (if f_X8_has ta_away 0 = true then (0 : Int64) else f_X5_ways_1 ta_people ta_away ta_unseenWays ta_seenHouses p1 p3)] := by
        have hf : (f_X5_ways_0 ta_people ta_away ta_unseenWays ta_seenHouses p1 p3) = (if f_X8_has ta_away 0 = true then (0 : Int64) else f_X5_ways_1 ta_people ta_away ta_unseenWays ta_seenHouses p1 p3) := by first | (simp only [f_X5_ways_0, if_neg c1, if_neg c4]; done) | rfl | (simp only [f_X5_ways_0, if_neg c1, if_neg c4]; rfl)
        refine vv_lret hC hR rfl dX5_ways_58 (by omega) (by omega) ?_
        rw [hf]
        exact ⟨rfl, rfl⟩
      refine vv_if_eq hC 49 dX5_ways_42 (by decide) (fun c11 => ?_) (fun c11 => ?_)
      · have c11 : ¬ (f_X8_has ta_away 0 = true) := bI_f c11
        refine vv_aload_n hC 0 dX5_ways_49 rfl rfl ?_
        refine vv_iload_n hC 1 dX5_ways_50 rfl rfl ?_
        refine vv_iload_n hC 2 dX5_ways_51 rfl rfl ?_
        refine vv_iconst (v := 1) hC dX5_ways_52 (by decide) ?_
        refine vv_iadd hC dX5_ways_53 ?_
        refine vv_topi (1) (by decide) ?_
        refine vv_lload_n hC 3 dX5_ways_54 rfl rfl ?_
        refine vv_callV hC dX5_ways_55 md_X5_ways lk_m_X5_53 lk_i_X5_ways lk_s_X5_ways h_ta rfl (As := [.int p1, .int 1, .long p3]) (rest := []) (c_X5_ways_1 g w0 a_ta a_fits a_left a_needs ta_people ta_away ta_unseenWays ta_seenHouses p1 p3 (by omega) h_ta) rfl rfl (Nat.le_of_ble_eq_true rfl) ⟨by decide, by decide, by decide, by decide⟩ (fun r w9 hq => ?_)
        obtain ⟨rfl, rfl⟩ := hq
        show V g X 11 w0 0 0 58 [(0, .ref a_ta), (1, .int p1), (2, .int 0), (3, .long p3)] [.long (f_X5_ways_1 ta_people ta_away ta_unseenWays ta_seenHouses p1 p3)]
        have hz := hJ12
        try simp only [if_neg c11] at hz
        first | exact hz | (simp only [if_neg c11]; exact hz)
      · have c11 : f_X8_has ta_away 0 = true := bI_t c11
        refine vv_lconst (v := 0) hC dX5_ways_45 (by decide) ?_
        refine vv_goto hC 58 dX5_ways_46 (by decide) ?_
        have hz := hJ12
        try simp only [if_pos c11] at hz
        first | exact hz | (simp only [if_pos c11]; exact hz)
