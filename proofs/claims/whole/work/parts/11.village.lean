def f_X7_linked (p0 : Int64) (p2 : Int32) (p3 : Int32) : Int64 := f_X8_withCell (f_X8_withCell p0 p2 (f_X8_cell p0 p2 ||| f_X8_bit p3)) p3 (f_X8_cell (f_X8_withCell p0 p2 (f_X8_cell p0 p2 ||| f_X8_bit p3)) p3 ||| f_X8_bit p2)
set_option maxHeartbeats 4000000 in
set_option maxRecDepth 100000 in
theorem c_X7_linked (g : GT) (w0 : Wd) (p0 : Int64) (p2 : Int32) (p3 : Int32) : CT g yX7_linked cX7_linked 6 (some .long) 1 23 0 0 w0 [.long p0, .int p2, .int p3] (fun r w2 => r = some (.long (f_X7_linked p0 p2 p3)) ∧ w0 = w2) := by
  refine CT.of (own := RX7) (by decide +kernel) rfl (Nat.le_of_ble_eq_true rfl) (fun X hC hR hI => ?_)
  show V g X 6 w0 0 0 0 [(0, .long p0), (2, .int p2), (3, .int p3)] []
  refine vv_lload_n hC 0 dX7_linked_0 rfl rfl ?_
  refine vv_iload_n hC 1 dX7_linked_1 rfl rfl ?_
  refine vv_lload_n hC 0 dX7_linked_2 rfl rfl ?_
  refine vv_iload_n hC 1 dX7_linked_3 rfl rfl ?_
  refine vv_callSN hC dX7_linked_4 md_X8_cell lk_n_X7_57 lk_t_X8_cell (As := [.long p0, .int p2]) (rest := [.int p2, .long p0]) (c_X8_cell g w0 p0 p2) rfl rfl (Nat.le_of_ble_eq_true rfl) ⟨by decide, by decide, by decide, by decide⟩ (fun r w9 hq => ?_)
  obtain ⟨rfl, rfl⟩ := hq
  show V g X 6 w0 0 0 7 [(0, .long p0), (2, .int p2), (3, .int p3)] [.int (f_X8_cell p0 p2), .int p2, .long p0]
  refine vv_iload_n hC 2 dX7_linked_7 rfl rfl ?_
  refine vv_callSN hC dX7_linked_8 md_X8_bit lk_n_X7_50 lk_t_X8_bit (As := [.int p3]) (rest := [.int (f_X8_cell p0 p2), .int p2, .long p0]) (c_X8_bit g w0 p3) rfl rfl (Nat.le_of_ble_eq_true rfl) ⟨by decide, by decide, by decide, by decide⟩ (fun r w9 hq => ?_)
  obtain ⟨rfl, rfl⟩ := hq
  show V g X 6 w0 0 0 11 [(0, .long p0), (2, .int p2), (3, .int p3)] [.int (f_X8_bit p3), .int (f_X8_cell p0 p2), .int p2, .long p0]
  refine vv_ior hC dX7_linked_11 ?_
  refine vv_callSN hC dX7_linked_12 md_X8_withCell lk_n_X7_46 lk_t_X8_withCell (As := [.long p0, .int p2, .int (f_X8_cell p0 p2 ||| f_X8_bit p3)]) (rest := []) (c_X8_withCell g w0 p0 p2 (f_X8_cell p0 p2 ||| f_X8_bit p3)) rfl rfl (Nat.le_of_ble_eq_true rfl) ⟨by decide, by decide, by decide, by decide⟩ (fun r w9 hq => ?_)
  obtain ⟨rfl, rfl⟩ := hq
  show V g X 6 w0 0 0 15 [(0, .long p0), (2, .int p2), (3, .int p3)] [.long (f_X8_withCell p0 p2 (f_X8_cell p0 p2 ||| f_X8_bit p3))]
  refine vv_lstore (lv2 := [(4, .long (f_X8_withCell p0 p2 (f_X8_cell p0 p2 ||| f_X8_bit p3))), (0, .long p0), (2, .int p2), (3, .int p3)]) hC dX7_linked_15 (by decide) rfl ?_
  refine vv_lload hC 0 dX7_linked_17 rfl ?_
  refine vv_iload_n hC 3 dX7_linked_19 rfl rfl ?_
  refine vv_lload hC 0 dX7_linked_20 rfl ?_
  refine vv_iload_n hC 3 dX7_linked_22 rfl rfl ?_
  refine vv_callSN hC dX7_linked_23 md_X8_cell lk_n_X7_57 lk_t_X8_cell (As := [.long (f_X8_withCell p0 p2 (f_X8_cell p0 p2 ||| f_X8_bit p3)), .int p3]) (rest := [.int p3, .long (f_X8_withCell p0 p2 (f_X8_cell p0 p2 ||| f_X8_bit p3))]) (c_X8_cell g w0 (f_X8_withCell p0 p2 (f_X8_cell p0 p2 ||| f_X8_bit p3)) p3) rfl rfl (Nat.le_of_ble_eq_true rfl) ⟨by decide, by decide, by decide, by decide⟩ (fun r w9 hq => ?_)
  obtain ⟨rfl, rfl⟩ := hq
  show V g X 6 w0 0 0 26 [(4, .long (f_X8_withCell p0 p2 (f_X8_cell p0 p2 ||| f_X8_bit p3))), (0, .long p0), (2, .int p2), (3, .int p3)] [.int (f_X8_cell (f_X8_withCell p0 p2 (f_X8_cell p0 p2 ||| f_X8_bit p3)) p3), .int p3, .long (f_X8_withCell p0 p2 (f_X8_cell p0 p2 ||| f_X8_bit p3))]
  refine vv_iload_n hC 2 dX7_linked_26 rfl rfl ?_
  refine vv_callSN hC dX7_linked_27 md_X8_bit lk_n_X7_50 lk_t_X8_bit (As := [.int p2]) (rest := [.int (f_X8_cell (f_X8_withCell p0 p2 (f_X8_cell p0 p2 ||| f_X8_bit p3)) p3), .int p3, .long (f_X8_withCell p0 p2 (f_X8_cell p0 p2 ||| f_X8_bit p3))]) (c_X8_bit g w0 p2) rfl rfl (Nat.le_of_ble_eq_true rfl) ⟨by decide, by decide, by decide, by decide⟩ (fun r w9 hq => ?_)
  obtain ⟨rfl, rfl⟩ := hq
  show V g X 6 w0 0 0 30 [(4, .long (f_X8_withCell p0 p2 (f_X8_cell p0 p2 ||| f_X8_bit p3))), (0, .long p0), (2, .int p2), (3, .int p3)] [.int (f_X8_bit p2), .int (f_X8_cell (f_X8_withCell p0 p2 (f_X8_cell p0 p2 ||| f_X8_bit p3)) p3), .int p3, .long (f_X8_withCell p0 p2 (f_X8_cell p0 p2 ||| f_X8_bit p3))]
  refine vv_ior hC dX7_linked_30 ?_
  refine vv_callSN hC dX7_linked_31 md_X8_withCell lk_n_X7_46 lk_t_X8_withCell (As := [.long (f_X8_withCell p0 p2 (f_X8_cell p0 p2 ||| f_X8_bit p3)), .int p3, .int (f_X8_cell (f_X8_withCell p0 p2 (f_X8_cell p0 p2 ||| f_X8_bit p3)) p3 ||| f_X8_bit p2)]) (rest := []) (c_X8_withCell g w0 (f_X8_withCell p0 p2 (f_X8_cell p0 p2 ||| f_X8_bit p3)) p3 (f_X8_cell (f_X8_withCell p0 p2 (f_X8_cell p0 p2 ||| f_X8_bit p3)) p3 ||| f_X8_bit p2)) rfl rfl (Nat.le_of_ble_eq_true rfl) ⟨by decide, by decide, by decide, by decide⟩ (fun r w9 hq => ?_)
  obtain ⟨rfl, rfl⟩ := hq
  show V g X 6 w0 0 0 34 [(4, .long (f_X8_withCell p0 p2 (f_X8_cell p0 p2 ||| f_X8_bit p3))), (0, .long p0), (2, .int p2), (3, .int p3)] [.long (f_X8_withCell (f_X8_withCell p0 p2 (f_X8_cell p0 p2 ||| f_X8_bit p3)) p3 (f_X8_cell (f_X8_withCell p0 p2 (f_X8_cell p0 p2 ||| f_X8_bit p3)) p3 ||| f_X8_bit p2))]
  have hf : (f_X7_linked p0 p2 p3) = f_X8_withCell (f_X8_withCell p0 p2 (f_X8_cell p0 p2 ||| f_X8_bit p3)) p3 (f_X8_cell (f_X8_withCell p0 p2 (f_X8_cell p0 p2 ||| f_X8_bit p3)) p3 ||| f_X8_bit p2) := by first | (simp only [f_X7_linked]; done) | rfl | (simp only [f_X7_linked]; rfl)
  refine vv_lret hC hR rfl dX7_linked_34 (by omega) (by omega) ?_
  rw [hf]
  exact ⟨rfl, rfl⟩
def f_X7_addHouse (v : TVi) (p1 : Int32) (p2 : Int32) : TVi := sVi_houses (sVi_barred (sVi_bolted (sVi_sheep v (f_X8_withCell (gVi_sheep v) (nI (gVi_houses v)) p1)) (if p2 = 1 then (gVi_bolted v ||| f_X8_bit (nI (gVi_houses v))) else gVi_bolted v)) (if p2 = 2 then (gVi_barred v ||| f_X8_bit (nI (gVi_houses v))) else gVi_barred v)) (gVi_houses v + 1)
set_option maxHeartbeats 4000000 in
set_option maxRecDepth 100000 in
theorem c_X7_addHouse (g : GT) (w0 : Wd) (a_v : Nat) (v : TVi) (p1 : Int32) (p2 : Int32) (h_v : w0 a_v = some (.inr (7, cVi v))) : CT g yX7_addHouse cX7_addHouse 3 none 1 23 0 0 w0 [.ref a_v, .int p1, .int p2] (fun r w2 => r = none ∧ w2 a_v = some (.inr (7, cVi (f_X7_addHouse v p1 p2))) ∧ wE (fun q => q = a_v) w0 w2) := by
  refine CT.of (own := RX7) (by decide +kernel) rfl (Nat.le_of_ble_eq_true rfl) (fun X hC hR hI => ?_)
  show V g X 3 w0 0 0 0 [(0, .ref a_v), (1, .int p1), (2, .int p2)] []
  have hE : wE (fun q => q = a_v) w0 w0 := wE.refl
  refine vv_aload_n hC 0 dX7_addHouse_0 rfl rfl ?_
  refine vv_aload_n hC 0 dX7_addHouse_1 rfl rfl ?_
  refine vv_get (v := .long (gVi_sheep v)) hC fl_X7_34 dX7_addHouse_2 h_v rfl ?_
  refine vv_aload_n hC 0 dX7_addHouse_5 rfl rfl ?_
  refine vv_get (v := .int (nI (gVi_houses v))) hC fl_X7_9 dX7_addHouse_6 h_v rfl ?_
  refine vv_iload_n hC 1 dX7_addHouse_9 rfl rfl ?_
  refine vv_callSN hC dX7_addHouse_10 md_X8_withCell lk_n_X7_46 lk_t_X8_withCell (As := [.long (gVi_sheep v), .int (nI (gVi_houses v)), .int p1]) (rest := [.ref a_v]) (c_X8_withCell g w0 (gVi_sheep v) (nI (gVi_houses v)) p1) rfl rfl (Nat.le_of_ble_eq_true rfl) ⟨by decide, by decide, by decide, by decide⟩ (fun r w9 hq => ?_)
  obtain ⟨rfl, rfl⟩ := hq
  show V g X 3 w0 0 0 13 [(0, .ref a_v), (1, .int p1), (2, .int p2)] [.long (f_X8_withCell (gVi_sheep v) (nI (gVi_houses v)) p1), .ref a_v]
  refine vv_put hC fp_X7_34 dX7_addHouse_13 h_v rfl rfl (Nat.le_of_ble_eq_true rfl) (fun w1 t1 hs => ?_)
  have t1 : w1 a_v = some (.inr (7, cVi (sVi_sheep v (f_X8_withCell (gVi_sheep v) (nI (gVi_houses v)) p1)))) := t1.trans (congrArg (fun z => some (Sum.inr (7, z))) (eVi_sheep _ _))
  have h_v := t1
  have hE := hE.trans (hs.mono (fun _ z => z))
  refine vv_iload_n hC 2 dX7_addHouse_16 rfl rfl ?_
  refine vv_iconst (v := 1) hC dX7_addHouse_17 (by decide) ?_
  have hJ3 : ∀ w5 : Wd, w5 a_v = some (.inr (7, cVi (sVi_bolted (sVi_sheep v (f_X8_withCell (gVi_sheep v) (nI (gVi_houses v)) p1)) (if p2 = 1 then (gVi_bolted v ||| f_X8_bit (nI (gVi_houses v))) else gVi_bolted v)))) → wE (fun q => q = a_v) w0 w5 → V g X 3 w5 0 0 37 [(0, .ref a_v), (1, .int p1), (2, .int p2)] [] := by
    intro w5 h_v hE
    refine vv_iload_n hC 2 dX7_addHouse_37 rfl rfl ?_
    refine vv_iconst (v := 2) hC dX7_addHouse_38 (by decide) ?_
    have hJ7 : ∀ w9 : Wd, w9 a_v = some (.inr (7, cVi (sVi_barred (sVi_bolted (sVi_sheep v (f_X8_withCell (gVi_sheep v) (nI (gVi_houses v)) p1)) (if p2 = 1 then (gVi_bolted v ||| f_X8_bit (nI (gVi_houses v))) else gVi_bolted v)) (if p2 = 2 then (gVi_barred v ||| f_X8_bit (nI (gVi_houses v))) else gVi_barred v)))) → wE (fun q => q = a_v) w0 w9 → V g X 3 w9 0 0 58 [(0, .ref a_v), (1, .int p1), (2, .int p2)] [] := by
      intro w9 h_v hE
      refine vv_aload_n hC 0 dX7_addHouse_58 rfl rfl ?_
      refine vv_dup hC dX7_addHouse_59 rfl ?_
      refine vv_get (v := .int (nI (gVi_houses v))) hC fl_X7_9 dX7_addHouse_60 h_v rfl ?_
      refine vv_iconst (v := 1) hC dX7_addHouse_63 (by decide) ?_
      refine vv_iadd hC dX7_addHouse_64 ?_
      refine vv_topi (nI (gVi_houses v + 1)) (nI_add (gVi_houses v) 1) ?_
      refine vv_put hC fp_X7_9 dX7_addHouse_65 h_v rfl rfl (Nat.le_of_ble_eq_true rfl) (fun w10 t1 hs => ?_)
      have t1 : w10 a_v = some (.inr (7, cVi (sVi_houses (sVi_barred (sVi_bolted (sVi_sheep v (f_X8_withCell (gVi_sheep v) (nI (gVi_houses v)) p1)) (if p2 = 1 then (gVi_bolted v ||| f_X8_bit (nI (gVi_houses v))) else gVi_bolted v)) (if p2 = 2 then (gVi_barred v ||| f_X8_bit (nI (gVi_houses v))) else gVi_barred v)) (gVi_houses v + 1)))) := t1.trans (congrArg (fun z => some (Sum.inr (7, z))) (eVi_houses _ _))
      have h_v := t1
      have hE := hE.trans (hs.mono (fun _ z => z))
      have hf : (f_X7_addHouse v p1 p2) = sVi_houses (sVi_barred (sVi_bolted (sVi_sheep v (f_X8_withCell (gVi_sheep v) (nI (gVi_houses v)) p1)) (if p2 = 1 then (gVi_bolted v ||| f_X8_bit (nI (gVi_houses v))) else gVi_bolted v)) (if p2 = 2 then (gVi_barred v ||| f_X8_bit (nI (gVi_houses v))) else gVi_barred v)) (gVi_houses v + 1) := by first | (simp only [f_X7_addHouse]; done) | rfl | (simp only [f_X7_addHouse]; rfl)
      refine vv_vret hC hR rfl dX7_addHouse_68 (by omega) (by omega) ?_
      rw [hf]
      exact ⟨rfl, h_v, hE⟩
    refine vv_icmp_ne hC 58 dX7_addHouse_39 (by decide) (fun c6 => ?_) (fun c6 => ?_)
    · have c6 : ¬ (p2 = 2) := c6
      have hz := hJ7 w5
      try simp only [if_neg c6] at hz
      first | exact hz h_v hE | (simp only [if_neg c6]; exact hz h_v hE)
    · have c6 : p2 = 2 := c6
      refine vv_aload_n hC 0 dX7_addHouse_42 rfl rfl ?_
      refine vv_dup hC dX7_addHouse_43 rfl ?_
      refine vv_get (v := .int (gVi_barred v)) hC fl_X7_40 dX7_addHouse_44 h_v rfl ?_
      refine vv_aload_n hC 0 dX7_addHouse_47 rfl rfl ?_
      refine vv_get (v := .int (nI (gVi_houses v))) hC fl_X7_9 dX7_addHouse_48 h_v rfl ?_
      refine vv_callSN hC dX7_addHouse_51 md_X8_bit lk_n_X7_50 lk_t_X8_bit (As := [.int (nI (gVi_houses v))]) (rest := [.int (gVi_barred v), .ref a_v]) (c_X8_bit g w5 (nI (gVi_houses v))) rfl rfl (Nat.le_of_ble_eq_true rfl) ⟨by decide, by decide, by decide, by decide⟩ (fun r w9 hq => ?_)
      obtain ⟨rfl, rfl⟩ := hq
      show V g X 3 w5 0 0 54 [(0, .ref a_v), (1, .int p1), (2, .int p2)] [.int (f_X8_bit (nI (gVi_houses v))), .int (gVi_barred v), .ref a_v]
      refine vv_ior hC dX7_addHouse_54 ?_
      refine vv_put hC fp_X7_40 dX7_addHouse_55 h_v rfl rfl (Nat.le_of_ble_eq_true rfl) (fun w8 t1 hs => ?_)
      have t1 : w8 a_v = some (.inr (7, cVi (sVi_barred (sVi_bolted (sVi_sheep v (f_X8_withCell (gVi_sheep v) (nI (gVi_houses v)) p1)) (if p2 = 1 then (gVi_bolted v ||| f_X8_bit (nI (gVi_houses v))) else gVi_bolted v)) (gVi_barred v ||| f_X8_bit (nI (gVi_houses v)))))) := t1.trans (congrArg (fun z => some (Sum.inr (7, z))) (eVi_barred _ _))
      have h_v := t1
      have hE := hE.trans (hs.mono (fun _ z => z))
      have hz := hJ7 w8
      try simp only [if_pos c6] at hz
      first | exact hz h_v hE | (simp only [if_pos c6]; exact hz h_v hE)
  refine vv_icmp_ne hC 37 dX7_addHouse_18 (by decide) (fun c2 => ?_) (fun c2 => ?_)
  · have c2 : ¬ (p2 = 1) := c2
    have hz := hJ3 w1
    try simp only [if_neg c2] at hz
    first | exact hz h_v hE | (simp only [if_neg c2]; exact hz h_v hE)
  · have c2 : p2 = 1 := c2
    refine vv_aload_n hC 0 dX7_addHouse_21 rfl rfl ?_
    refine vv_dup hC dX7_addHouse_22 rfl ?_
    refine vv_get (v := .int (gVi_bolted v)) hC fl_X7_37 dX7_addHouse_23 h_v rfl ?_
    refine vv_aload_n hC 0 dX7_addHouse_26 rfl rfl ?_
    refine vv_get (v := .int (nI (gVi_houses v))) hC fl_X7_9 dX7_addHouse_27 h_v rfl ?_
    refine vv_callSN hC dX7_addHouse_30 md_X8_bit lk_n_X7_50 lk_t_X8_bit (As := [.int (nI (gVi_houses v))]) (rest := [.int (gVi_bolted v), .ref a_v]) (c_X8_bit g w1 (nI (gVi_houses v))) rfl rfl (Nat.le_of_ble_eq_true rfl) ⟨by decide, by decide, by decide, by decide⟩ (fun r w9 hq => ?_)
    obtain ⟨rfl, rfl⟩ := hq
    show V g X 3 w1 0 0 33 [(0, .ref a_v), (1, .int p1), (2, .int p2)] [.int (f_X8_bit (nI (gVi_houses v))), .int (gVi_bolted v), .ref a_v]
    refine vv_ior hC dX7_addHouse_33 ?_
    refine vv_put hC fp_X7_37 dX7_addHouse_34 h_v rfl rfl (Nat.le_of_ble_eq_true rfl) (fun w4 t1 hs => ?_)
    have t1 : w4 a_v = some (.inr (7, cVi (sVi_bolted (sVi_sheep v (f_X8_withCell (gVi_sheep v) (nI (gVi_houses v)) p1)) (gVi_bolted v ||| f_X8_bit (nI (gVi_houses v)))))) := t1.trans (congrArg (fun z => some (Sum.inr (7, z))) (eVi_bolted _ _))
    have h_v := t1
    have hE := hE.trans (hs.mono (fun _ z => z))
    have hz := hJ3 w4
    try simp only [if_pos c2] at hz
    first | exact hz h_v hE | (simp only [if_pos c2]; exact hz h_v hE)
def f_X7_addPath (v : TVi) (p1 : Int32) (p2 : Int32) (p3 : Bool) : TVi := sVi_pathCount (sVi_wells (sVi_paths v (f_X7_linked (gVi_paths v) p1 p2)) (if p3 = true then f_X7_linked (gVi_wells v) p1 p2 else gVi_wells v)) (gVi_pathCount v + 1)
set_option maxHeartbeats 4000000 in
set_option maxRecDepth 100000 in
theorem c_X7_addPath (g : GT) (w0 : Wd) (a_v : Nat) (v : TVi) (p1 : Int32) (p2 : Int32) (p3 : Bool) (h_v : w0 a_v = some (.inr (7, cVi v))) : CT g yX7_addPath cX7_addPath 4 none 2 48 0 0 w0 [.ref a_v, .int p1, .int p2, .int (bI p3)] (fun r w2 => r = none ∧ w2 a_v = some (.inr (7, cVi (f_X7_addPath v p1 p2 p3))) ∧ wE (fun q => q = a_v) w0 w2) := by
  refine CT.of (own := RX7) (by decide +kernel) rfl (Nat.le_of_ble_eq_true rfl) (fun X hC hR hI => ?_)
  show V g X 4 w0 0 0 0 [(0, .ref a_v), (1, .int p1), (2, .int p2), (3, .int (bI p3))] []
  have hE : wE (fun q => q = a_v) w0 w0 := wE.refl
  refine vv_aload_n hC 0 dX7_addPath_0 rfl rfl ?_
  refine vv_aload_n hC 0 dX7_addPath_1 rfl rfl ?_
  refine vv_get (v := .long (gVi_paths v)) hC fl_X7_21 dX7_addPath_2 h_v rfl ?_
  refine vv_iload_n hC 1 dX7_addPath_5 rfl rfl ?_
  refine vv_iload_n hC 2 dX7_addPath_6 rfl rfl ?_
  refine vv_callS hC dX7_addPath_7 md_X7_linked lk_m_X7_54 lk_t_X7_linked (As := [.long (gVi_paths v), .int p1, .int p2]) (rest := [.ref a_v]) (c_X7_linked g w0 (gVi_paths v) p1 p2) rfl rfl (Nat.le_of_ble_eq_true rfl) ⟨by decide, by decide, by decide, by decide⟩ (fun r w9 hq => ?_)
  obtain ⟨rfl, rfl⟩ := hq
  show V g X 4 w0 0 0 10 [(0, .ref a_v), (1, .int p1), (2, .int p2), (3, .int (bI p3))] [.long (f_X7_linked (gVi_paths v) p1 p2), .ref a_v]
  refine vv_put hC fp_X7_21 dX7_addPath_10 h_v rfl rfl (Nat.le_of_ble_eq_true rfl) (fun w1 t1 hs => ?_)
  have t1 : w1 a_v = some (.inr (7, cVi (sVi_paths v (f_X7_linked (gVi_paths v) p1 p2)))) := t1.trans (congrArg (fun z => some (Sum.inr (7, z))) (eVi_paths _ _))
  have h_v := t1
  have hE := hE.trans (hs.mono (fun _ z => z))
  refine vv_iload_n hC 3 dX7_addPath_13 rfl rfl ?_
  have hJ3 : ∀ w5 : Wd, w5 a_v = some (.inr (7, cVi (sVi_wells (sVi_paths v (f_X7_linked (gVi_paths v) p1 p2)) (if p3 = true then f_X7_linked (gVi_wells v) p1 p2 else gVi_wells v)))) → wE (fun q => q = a_v) w0 w5 → V g X 4 w5 0 0 30 [(0, .ref a_v), (1, .int p1), (2, .int p2), (3, .int (bI p3))] [] := by
    intro w5 h_v hE
    refine vv_aload_n hC 0 dX7_addPath_30 rfl rfl ?_
    refine vv_dup hC dX7_addPath_31 rfl ?_
    refine vv_get (v := .int (nI (gVi_pathCount v))) hC fl_X7_18 dX7_addPath_32 h_v rfl ?_
    refine vv_iconst (v := 1) hC dX7_addPath_35 (by decide) ?_
    refine vv_iadd hC dX7_addPath_36 ?_
    refine vv_topi (nI (gVi_pathCount v + 1)) (nI_add (gVi_pathCount v) 1) ?_
    refine vv_put hC fp_X7_18 dX7_addPath_37 h_v rfl rfl (Nat.le_of_ble_eq_true rfl) (fun w6 t1 hs => ?_)
    have t1 : w6 a_v = some (.inr (7, cVi (sVi_pathCount (sVi_wells (sVi_paths v (f_X7_linked (gVi_paths v) p1 p2)) (if p3 = true then f_X7_linked (gVi_wells v) p1 p2 else gVi_wells v)) (gVi_pathCount v + 1)))) := t1.trans (congrArg (fun z => some (Sum.inr (7, z))) (eVi_pathCount _ _))
    have h_v := t1
    have hE := hE.trans (hs.mono (fun _ z => z))
    have hf : (f_X7_addPath v p1 p2 p3) = sVi_pathCount (sVi_wells (sVi_paths v (f_X7_linked (gVi_paths v) p1 p2)) (if p3 = true then f_X7_linked (gVi_wells v) p1 p2 else gVi_wells v)) (gVi_pathCount v + 1) := by first | (simp only [f_X7_addPath]; done) | rfl | (simp only [f_X7_addPath]; rfl)
    refine vv_vret hC hR rfl dX7_addPath_40 (by omega) (by omega) ?_
    rw [hf]
    exact ⟨rfl, h_v, hE⟩
  refine vv_if_eq hC 30 dX7_addPath_14 (by decide) (fun c2 => ?_) (fun c2 => ?_)
  · have c2 : ¬ (p3 = true) := bI_f c2
    have hz := hJ3 w1
    try simp only [if_neg c2] at hz
    first | exact hz h_v hE | (simp only [if_neg c2]; exact hz h_v hE)
  · have c2 : p3 = true := bI_t c2
    refine vv_aload_n hC 0 dX7_addPath_17 rfl rfl ?_
    refine vv_aload_n hC 0 dX7_addPath_18 rfl rfl ?_
    refine vv_get (v := .long (gVi_wells v)) hC fl_X7_25 dX7_addPath_19 h_v rfl ?_
    refine vv_iload_n hC 1 dX7_addPath_22 rfl rfl ?_
    refine vv_iload_n hC 2 dX7_addPath_23 rfl rfl ?_
    refine vv_callS hC dX7_addPath_24 md_X7_linked lk_m_X7_54 lk_t_X7_linked (As := [.long (gVi_wells v), .int p1, .int p2]) (rest := [.ref a_v]) (c_X7_linked g w1 (gVi_wells v) p1 p2) rfl rfl (Nat.le_of_ble_eq_true rfl) ⟨by decide, by decide, by decide, by decide⟩ (fun r w9 hq => ?_)
    obtain ⟨rfl, rfl⟩ := hq
    show V g X 4 w1 0 0 27 [(0, .ref a_v), (1, .int p1), (2, .int p2), (3, .int (bI p3))] [.long (f_X7_linked (gVi_wells v) p1 p2), .ref a_v]
    refine vv_put hC fp_X7_25 dX7_addPath_27 h_v rfl rfl (Nat.le_of_ble_eq_true rfl) (fun w4 t1 hs => ?_)
    have t1 : w4 a_v = some (.inr (7, cVi (sVi_wells (sVi_paths v (f_X7_linked (gVi_paths v) p1 p2)) (f_X7_linked (gVi_wells v) p1 p2)))) := t1.trans (congrArg (fun z => some (Sum.inr (7, z))) (eVi_wells _ _))
    have h_v := t1
    have hE := hE.trans (hs.mono (fun _ z => z))
    have hz := hJ3 w4
    try simp only [if_pos c2] at hz
    first | exact hz h_v hE | (simp only [if_pos c2]; exact hz h_v hE)
def f_X7_addPerson (v : TVi) (p1 : Int32) (p2 : Bool) : TVi := sVi_people (sVi_wolves (sVi_homes v (f_X8_withCell (gVi_homes v) (nI (gVi_people v)) p1)) (if p2 = true then (gVi_wolves v ||| f_X8_bit (nI (gVi_people v))) else gVi_wolves v)) (gVi_people v + 1)
set_option maxHeartbeats 4000000 in
set_option maxRecDepth 100000 in
theorem c_X7_addPerson (g : GT) (w0 : Wd) (a_v : Nat) (v : TVi) (p1 : Int32) (p2 : Bool) (h_v : w0 a_v = some (.inr (7, cVi v))) : CT g yX7_addPerson cX7_addPerson 3 none 1 23 0 0 w0 [.ref a_v, .int p1, .int (bI p2)] (fun r w2 => r = none ∧ w2 a_v = some (.inr (7, cVi (f_X7_addPerson v p1 p2))) ∧ wE (fun q => q = a_v) w0 w2) := by
  refine CT.of (own := RX7) (by decide +kernel) rfl (Nat.le_of_ble_eq_true rfl) (fun X hC hR hI => ?_)
  show V g X 3 w0 0 0 0 [(0, .ref a_v), (1, .int p1), (2, .int (bI p2))] []
  have hE : wE (fun q => q = a_v) w0 w0 := wE.refl
  refine vv_aload_n hC 0 dX7_addPerson_0 rfl rfl ?_
  refine vv_aload_n hC 0 dX7_addPerson_1 rfl rfl ?_
  refine vv_get (v := .long (gVi_homes v)) hC fl_X7_28 dX7_addPerson_2 h_v rfl ?_
  refine vv_aload_n hC 0 dX7_addPerson_5 rfl rfl ?_
  refine vv_get (v := .int (nI (gVi_people v))) hC fl_X7_15 dX7_addPerson_6 h_v rfl ?_
  refine vv_iload_n hC 1 dX7_addPerson_9 rfl rfl ?_
  refine vv_callSN hC dX7_addPerson_10 md_X8_withCell lk_n_X7_46 lk_t_X8_withCell (As := [.long (gVi_homes v), .int (nI (gVi_people v)), .int p1]) (rest := [.ref a_v]) (c_X8_withCell g w0 (gVi_homes v) (nI (gVi_people v)) p1) rfl rfl (Nat.le_of_ble_eq_true rfl) ⟨by decide, by decide, by decide, by decide⟩ (fun r w9 hq => ?_)
  obtain ⟨rfl, rfl⟩ := hq
  show V g X 3 w0 0 0 13 [(0, .ref a_v), (1, .int p1), (2, .int (bI p2))] [.long (f_X8_withCell (gVi_homes v) (nI (gVi_people v)) p1), .ref a_v]
  refine vv_put hC fp_X7_28 dX7_addPerson_13 h_v rfl rfl (Nat.le_of_ble_eq_true rfl) (fun w1 t1 hs => ?_)
  have t1 : w1 a_v = some (.inr (7, cVi (sVi_homes v (f_X8_withCell (gVi_homes v) (nI (gVi_people v)) p1)))) := t1.trans (congrArg (fun z => some (Sum.inr (7, z))) (eVi_homes _ _))
  have h_v := t1
  have hE := hE.trans (hs.mono (fun _ z => z))
  refine vv_iload_n hC 2 dX7_addPerson_16 rfl rfl ?_
  have hJ3 : ∀ w5 : Wd, w5 a_v = some (.inr (7, cVi (sVi_wolves (sVi_homes v (f_X8_withCell (gVi_homes v) (nI (gVi_people v)) p1)) (if p2 = true then (gVi_wolves v ||| f_X8_bit (nI (gVi_people v))) else gVi_wolves v)))) → wE (fun q => q = a_v) w0 w5 → V g X 3 w5 0 0 36 [(0, .ref a_v), (1, .int p1), (2, .int (bI p2))] [] := by
    intro w5 h_v hE
    refine vv_aload_n hC 0 dX7_addPerson_36 rfl rfl ?_
    refine vv_dup hC dX7_addPerson_37 rfl ?_
    refine vv_get (v := .int (nI (gVi_people v))) hC fl_X7_15 dX7_addPerson_38 h_v rfl ?_
    refine vv_iconst (v := 1) hC dX7_addPerson_41 (by decide) ?_
    refine vv_iadd hC dX7_addPerson_42 ?_
    refine vv_topi (nI (gVi_people v + 1)) (nI_add (gVi_people v) 1) ?_
    refine vv_put hC fp_X7_15 dX7_addPerson_43 h_v rfl rfl (Nat.le_of_ble_eq_true rfl) (fun w6 t1 hs => ?_)
    have t1 : w6 a_v = some (.inr (7, cVi (sVi_people (sVi_wolves (sVi_homes v (f_X8_withCell (gVi_homes v) (nI (gVi_people v)) p1)) (if p2 = true then (gVi_wolves v ||| f_X8_bit (nI (gVi_people v))) else gVi_wolves v)) (gVi_people v + 1)))) := t1.trans (congrArg (fun z => some (Sum.inr (7, z))) (eVi_people _ _))
    have h_v := t1
    have hE := hE.trans (hs.mono (fun _ z => z))
    have hf : (f_X7_addPerson v p1 p2) = sVi_people (sVi_wolves (sVi_homes v (f_X8_withCell (gVi_homes v) (nI (gVi_people v)) p1)) (if p2 = true then (gVi_wolves v ||| f_X8_bit (nI (gVi_people v))) else gVi_wolves v)) (gVi_people v + 1) := by first | (simp only [f_X7_addPerson]; done) | rfl | (simp only [f_X7_addPerson]; rfl)
    refine vv_vret hC hR rfl dX7_addPerson_46 (by omega) (by omega) ?_
    rw [hf]
    exact ⟨rfl, h_v, hE⟩
  refine vv_if_eq hC 36 dX7_addPerson_17 (by decide) (fun c2 => ?_) (fun c2 => ?_)
  · have c2 : ¬ (p2 = true) := bI_f c2
    have hz := hJ3 w1
    try simp only [if_neg c2] at hz
    first | exact hz h_v hE | (simp only [if_neg c2]; exact hz h_v hE)
  · have c2 : p2 = true := bI_t c2
    refine vv_aload_n hC 0 dX7_addPerson_20 rfl rfl ?_
    refine vv_dup hC dX7_addPerson_21 rfl ?_
    refine vv_get (v := .int (gVi_wolves v)) hC fl_X7_43 dX7_addPerson_22 h_v rfl ?_
    refine vv_aload_n hC 0 dX7_addPerson_25 rfl rfl ?_
    refine vv_get (v := .int (nI (gVi_people v))) hC fl_X7_15 dX7_addPerson_26 h_v rfl ?_
    refine vv_callSN hC dX7_addPerson_29 md_X8_bit lk_n_X7_50 lk_t_X8_bit (As := [.int (nI (gVi_people v))]) (rest := [.int (gVi_wolves v), .ref a_v]) (c_X8_bit g w1 (nI (gVi_people v))) rfl rfl (Nat.le_of_ble_eq_true rfl) ⟨by decide, by decide, by decide, by decide⟩ (fun r w9 hq => ?_)
    obtain ⟨rfl, rfl⟩ := hq
    show V g X 3 w1 0 0 32 [(0, .ref a_v), (1, .int p1), (2, .int (bI p2))] [.int (f_X8_bit (nI (gVi_people v))), .int (gVi_wolves v), .ref a_v]
    refine vv_ior hC dX7_addPerson_32 ?_
    refine vv_put hC fp_X7_43 dX7_addPerson_33 h_v rfl rfl (Nat.le_of_ble_eq_true rfl) (fun w4 t1 hs => ?_)
    have t1 : w4 a_v = some (.inr (7, cVi (sVi_wolves (sVi_homes v (f_X8_withCell (gVi_homes v) (nI (gVi_people v)) p1)) (gVi_wolves v ||| f_X8_bit (nI (gVi_people v)))))) := t1.trans (congrArg (fun z => some (Sum.inr (7, z))) (eVi_wolves _ _))
    have h_v := t1
    have hE := hE.trans (hs.mono (fun _ z => z))
    have hz := hJ3 w4
    try simp only [if_pos c2] at hz
    first | exact hz h_v hE | (simp only [if_pos c2]; exact hz h_v hE)
def f_X7_addKin (v : TVi) (p1 : Int32) (p2 : Int32) : TVi := sVi_kin v (f_X7_linked (gVi_kin v) p1 p2)
set_option maxHeartbeats 4000000 in
set_option maxRecDepth 100000 in
theorem c_X7_addKin (g : GT) (w0 : Wd) (a_v : Nat) (v : TVi) (p1 : Int32) (p2 : Int32) (h_v : w0 a_v = some (.inr (7, cVi v))) : CT g yX7_addKin cX7_addKin 3 none 2 48 0 0 w0 [.ref a_v, .int p1, .int p2] (fun r w2 => r = none ∧ w2 a_v = some (.inr (7, cVi (f_X7_addKin v p1 p2))) ∧ wE (fun q => q = a_v) w0 w2) := by
  refine CT.of (own := RX7) (by decide +kernel) rfl (Nat.le_of_ble_eq_true rfl) (fun X hC hR hI => ?_)
  show V g X 3 w0 0 0 0 [(0, .ref a_v), (1, .int p1), (2, .int p2)] []
  have hE : wE (fun q => q = a_v) w0 w0 := wE.refl
  refine vv_aload_n hC 0 dX7_addKin_0 rfl rfl ?_
  refine vv_aload_n hC 0 dX7_addKin_1 rfl rfl ?_
  refine vv_get (v := .long (gVi_kin v)) hC fl_X7_31 dX7_addKin_2 h_v rfl ?_
  refine vv_iload_n hC 1 dX7_addKin_5 rfl rfl ?_
  refine vv_iload_n hC 2 dX7_addKin_6 rfl rfl ?_
  refine vv_callS hC dX7_addKin_7 md_X7_linked lk_m_X7_54 lk_t_X7_linked (As := [.long (gVi_kin v), .int p1, .int p2]) (rest := [.ref a_v]) (c_X7_linked g w0 (gVi_kin v) p1 p2) rfl rfl (Nat.le_of_ble_eq_true rfl) ⟨by decide, by decide, by decide, by decide⟩ (fun r w9 hq => ?_)
  obtain ⟨rfl, rfl⟩ := hq
  show V g X 3 w0 0 0 10 [(0, .ref a_v), (1, .int p1), (2, .int p2)] [.long (f_X7_linked (gVi_kin v) p1 p2), .ref a_v]
  refine vv_put hC fp_X7_31 dX7_addKin_10 h_v rfl rfl (Nat.le_of_ble_eq_true rfl) (fun w1 t1 hs => ?_)
  have t1 : w1 a_v = some (.inr (7, cVi (sVi_kin v (f_X7_linked (gVi_kin v) p1 p2)))) := t1.trans (congrArg (fun z => some (Sum.inr (7, z))) (eVi_kin _ _))
  have h_v := t1
  have hE := hE.trans (hs.mono (fun _ z => z))
  have hf : (f_X7_addKin v p1 p2) = sVi_kin v (f_X7_linked (gVi_kin v) p1 p2) := by first | (simp only [f_X7_addKin]; done) | rfl | (simp only [f_X7_addKin]; rfl)
  refine vv_vret hC hR rfl dX7_addKin_13 (by omega) (by omega) ?_
  rw [hf]
  exact ⟨rfl, h_v, hE⟩
def f_X7_dwellers_L4 (v : TVi) (p1 : Int32) : Nat → Nat → Int32 → Int32
  | 0, k4, l2_4 => l2_4
  | r4 + 1, k4, l2_4 => f_X7_dwellers_L4 v p1 r4 (k4 + 1) (if f_X8_cell (gVi_homes v) (nI k4) = p1 then (l2_4 ||| f_X8_bit (nI k4)) else l2_4)
def f_X7_dwellers (v : TVi) (p1 : Int32) : Int32 := (f_X7_dwellers_L4 v p1 (gVi_people v) 0 0)
set_option maxHeartbeats 4000000 in
set_option maxRecDepth 100000 in
theorem c_X7_dwellers (g : GT) (w0 : Wd) (a_v : Nat) (v : TVi) (p1 : Int32) (hvh : gVi_houses v ≤ 4) (hvp : gVi_people v ≤ 6) (h_v : w0 a_v = some (.inr (7, cVi v))) : CT g yX7_dwellers cX7_dwellers 4 (some .int) 1 22 0 0 w0 [.ref a_v, .int p1] (fun r w2 => r = some (.int (f_X7_dwellers v p1)) ∧ w0 = w2) := by
  refine CT.of (own := RX7) (by decide +kernel) rfl (Nat.le_of_ble_eq_true rfl) (fun X hC hR hI => ?_)
  show V g X 4 w0 0 0 0 [(0, .ref a_v), (1, .int p1)] []
  refine vv_iconst (v := 0) hC dX7_dwellers_0 (by decide) ?_
  refine vv_istore_n (lv2 := [(2, .int 0), (0, .ref a_v), (1, .int p1)]) hC dX7_dwellers_1 rfl (by decide) rfl ?_
  refine vv_iconst (v := 0) hC dX7_dwellers_2 (by decide) ?_
  refine vv_istore_n (lv2 := [(3, .int 0), (2, .int 0), (0, .ref a_v), (1, .int p1)]) hC dX7_dwellers_3 rfl (by decide) rfl ?_
  have hL3 : ∀ (r4 k4 : Nat) (l2_4 : Int32) (out : Int32), k4 + r4 = gVi_people v → out = f_X7_dwellers_L4 v p1 r4 k4 l2_4 → V g X 4 w0 0 0 37 [(0, .ref a_v), (1, .int p1), (2, .int out)] [] → V g X 4 w0 0 0 4 [(0, .ref a_v), (1, .int p1), (2, .int l2_4), (3, .int (nI k4))] [] := by
    intro r4
    induction r4 with
    | zero =>
      intro k4 l2_4 out hb ho hk
      refine vv_iload_n hC 3 dX7_dwellers_4 rfl rfl ?_
      refine vv_aload_n hC 0 dX7_dwellers_5 rfl rfl ?_
      refine vv_get (v := .int (nI (gVi_people v))) hC fl_X7_15 dX7_dwellers_6 h_v rfl ?_
      refine vv_icmp_ge hC 37 dX7_dwellers_9 (by decide) (fun c => ?_) (fun c => False.elim (c ((nI_le_ (a := gVi_people v) (b := k4) (by omega) (by omega)).mpr (by omega))))
      refine vv_lv [0, 1, 2] rfl ?_
      have ho := ho.trans (by first | (simp only [f_X7_dwellers_L4]; done) | rfl | (simp only [f_X7_dwellers_L4]; rfl) : _ = l2_4)
      subst ho
      exact hk
    | succ r4 ih =>
      intro k4 l2_4 out hb ho hk
      refine vv_iload_n hC 3 dX7_dwellers_4 rfl rfl ?_
      refine vv_aload_n hC 0 dX7_dwellers_5 rfl rfl ?_
      refine vv_get (v := .int (nI (gVi_people v))) hC fl_X7_15 dX7_dwellers_6 h_v rfl ?_
      refine vv_icmp_ge hC 37 dX7_dwellers_9 (by decide) (fun c => absurd ((nI_le_ (a := gVi_people v) (b := k4) (by omega) (by omega)).mp c) (by first | omega | decide)) (fun c => ?_)
      refine vv_aload_n hC 0 dX7_dwellers_12 rfl rfl ?_
      refine vv_get (v := .long (gVi_homes v)) hC fl_X7_28 dX7_dwellers_13 h_v rfl ?_
      refine vv_iload_n hC 3 dX7_dwellers_16 rfl rfl ?_
      refine vv_callSN hC dX7_dwellers_17 md_X8_cell lk_n_X7_57 lk_t_X8_cell (As := [.long (gVi_homes v), .int (nI k4)]) (rest := []) (c_X8_cell g w0 (gVi_homes v) (nI k4)) rfl rfl (Nat.le_of_ble_eq_true rfl) ⟨by decide, by decide, by decide, by decide⟩ (fun r w9 hq => ?_)
      obtain ⟨rfl, rfl⟩ := hq
      show V g X 4 w0 0 0 20 [(0, .ref a_v), (1, .int p1), (2, .int l2_4), (3, .int (nI k4))] [.int (f_X8_cell (gVi_homes v) (nI k4))]
      refine vv_iload_n hC 1 dX7_dwellers_20 rfl rfl ?_
      have hJ2 : V g X 4 w0 0 0 31 [(0, .ref a_v), (1, .int p1), (2, .int (if f_X8_cell (gVi_homes v) (nI k4) = p1 then (l2_4 ||| f_X8_bit (nI k4)) else l2_4)), (3, .int (nI k4))] [] := by
        refine vv_iinc (lv2 := [(3, .int (nI (k4 + 1))), (0, .ref a_v), (1, .int p1), (2, .int (if f_X8_cell (gVi_homes v) (nI k4) = p1 then (l2_4 ||| f_X8_bit (nI k4)) else l2_4))]) hC 3 dX7_dwellers_31 rfl (nI_add k4 1) (by decide) rfl ?_
        refine vv_goto hC 4 dX7_dwellers_34 (by decide) ?_
        refine vv_lv [1, 2, 3, 0] rfl ?_
        exact ih (k4 + 1) (if f_X8_cell (gVi_homes v) (nI k4) = p1 then (l2_4 ||| f_X8_bit (nI k4)) else l2_4) out (by omega) (ho.trans (by first | (simp only [f_X7_dwellers_L4]; done) | rfl | (simp only [f_X7_dwellers_L4]; rfl))) hk
      refine vv_icmp_ne hC 31 dX7_dwellers_21 (by decide) (fun c1 => ?_) (fun c1 => ?_)
      · have c1 : ¬ (f_X8_cell (gVi_homes v) (nI k4) = p1) := c1
        have hz := hJ2
        try simp only [if_neg c1] at hz
        first | exact hz | (simp only [if_neg c1]; exact hz)
      · have c1 : f_X8_cell (gVi_homes v) (nI k4) = p1 := c1
        refine vv_iload_n hC 2 dX7_dwellers_24 rfl rfl ?_
        refine vv_iload_n hC 3 dX7_dwellers_25 rfl rfl ?_
        refine vv_callSN hC dX7_dwellers_26 md_X8_bit lk_n_X7_50 lk_t_X8_bit (As := [.int (nI k4)]) (rest := [.int l2_4]) (c_X8_bit g w0 (nI k4)) rfl rfl (Nat.le_of_ble_eq_true rfl) ⟨by decide, by decide, by decide, by decide⟩ (fun r w9 hq => ?_)
        obtain ⟨rfl, rfl⟩ := hq
        show V g X 4 w0 0 0 29 [(0, .ref a_v), (1, .int p1), (2, .int l2_4), (3, .int (nI k4))] [.int (f_X8_bit (nI k4)), .int l2_4]
        refine vv_ior hC dX7_dwellers_29 ?_
        refine vv_istore_n (lv2 := [(2, .int (l2_4 ||| f_X8_bit (nI k4))), (0, .ref a_v), (1, .int p1), (3, .int (nI k4))]) hC dX7_dwellers_30 rfl (by decide) rfl ?_
        refine vv_lv [1, 2, 0, 3] rfl ?_
        have hz := hJ2
        try simp only [if_pos c1] at hz
        first | exact hz | (simp only [if_pos c1]; exact hz)
  refine vv_lv [2, 3, 1, 0] rfl ?_
  refine hL3 (gVi_people v) 0 0 (f_X7_dwellers_L4 v p1 (gVi_people v) 0 0) (by omega) rfl ?_
  refine vv_iload_n hC 2 dX7_dwellers_37 rfl rfl ?_
  have hf : (f_X7_dwellers v p1) = (f_X7_dwellers_L4 v p1 (gVi_people v) 0 0) := by first | (simp only [f_X7_dwellers]; done) | rfl | (simp only [f_X7_dwellers]; rfl)
  refine vv_iret hC hR rfl dX7_dwellers_38 (by omega) (by omega) ?_
  rw [hf]
  exact ⟨rfl, rfl⟩
