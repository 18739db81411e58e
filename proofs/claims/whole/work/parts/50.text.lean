def f_X6_append (text_length : Nat) (bytes : Nat → Int32) (p1 : Int32) : Nat × (Nat → Int32) := ((if 96 ≤ text_length then text_length else text_length + 1), (if 96 ≤ text_length then bytes else upd bytes text_length (vp_nar .byte p1.toInt8.toInt32)))
set_option maxHeartbeats 4000000 in
set_option maxRecDepth 100000 in
theorem c_X6_append (g : GT) (w0 : Wd) (a_text : Nat) (a_bytes : Nat) (text_length : Nat) (bytes : Nat → Int32) (p1 : Int32) (htl : text_length ≤ 96) (h_text : w0 a_text = some (.inr (6, cTx a_bytes text_length))) (h_bytes : w0 a_bytes = some (.inl (g.2.2.1 2, 96, .inl bytes))) : CT g yX6_append cX6_append 2 none 0 0 0 0 w0 [.ref a_text, .int p1] (fun r w2 => r = none ∧ w2 a_text = some (.inr (6, cTx a_bytes ((f_X6_append text_length bytes p1).1))) ∧ w2 a_bytes = some (.inl (g.2.2.1 2, 96, .inl ((f_X6_append text_length bytes p1).2))) ∧ wE (fun q => q = a_text ∨ q = a_bytes) w0 w2) := by
  refine CT.of (own := RX6) (by decide +kernel) rfl (Nat.le_of_ble_eq_true rfl) (fun X hC hR hI => ?_)
  show V g X 2 w0 0 0 0 [(0, .ref a_text), (1, .int p1)] []
  have hE : wE (fun q => q = a_text ∨ q = a_bytes) w0 w0 := wE.refl
  refine vv_aload_n hC 0 dX6_append_0 rfl rfl ?_
  refine vv_get (v := .int (nI text_length)) hC fl_X6_15 dX6_append_1 h_text rfl ?_
  refine vv_if_lt hC 40 dX6_append_4 (by decide) (fun c => absurd c (nI_neg (by omega))) (fun _ => ?_)
  refine vv_aload_n hC 0 dX6_append_7 rfl rfl ?_
  refine vv_get (v := .int (nI text_length)) hC fl_X6_15 dX6_append_8 h_text rfl ?_
  refine vv_aload_n hC 0 dX6_append_11 rfl rfl ?_
  refine vv_get (v := .ref a_bytes) hC fl_X6_9 dX6_append_12 h_text rfl ?_
  refine vv_alen_bald (v := nI 96) hC dX6_append_15 h_bytes rfl ?_
  refine vv_topi (96) (by decide) ?_
  have hJ2 : ∀ w5 : Wd, w5 a_text = some (.inr (6, cTx a_bytes (if 96 ≤ text_length then text_length else text_length + 1))) → w5 a_bytes = some (.inl (g.2.2.1 2, 96, .inl (if 96 ≤ text_length then bytes else upd bytes text_length (vp_nar .byte p1.toInt8.toInt32)))) → wE (fun q => q = a_text ∨ q = a_bytes) w0 w5 → V g X 2 w5 0 0 40 [(0, .ref a_text), (1, .int p1)] [] := by
    intro w5 h_text h_bytes hE
    have hf : (f_X6_append text_length bytes p1) = ((if 96 ≤ text_length then text_length else text_length + 1), (if 96 ≤ text_length then bytes else upd bytes text_length (vp_nar .byte p1.toInt8.toInt32))) := by first | (simp only [f_X6_append]; done) | rfl | (simp only [f_X6_append]; rfl)
    refine vv_vret hC hR rfl dX6_append_40 (by omega) (by omega) ?_
    rw [hf]
    try dsimp only
    exact ⟨rfl, h_text, h_bytes, hE⟩
  refine vv_icmp_ge hC 40 dX6_append_16 (by decide) (fun c1 => ?_) (fun c1 => ?_)
  · have c1 : 96 ≤ text_length := (nI_le_ (a := 96) (b := text_length) (by omega) (by omega)).mp c1
    have hz := hJ2 w0
    try simp only [if_pos c1] at hz
    first | exact hz h_text h_bytes hE | (simp only [if_pos c1]; exact hz h_text h_bytes hE)
  · have c1 : ¬ (96 ≤ text_length) := fun z => c1 ((nI_le_ (a := 96) (b := text_length) (by omega) (by omega)).mpr z)
    refine vv_aload_n hC 0 dX6_append_19 rfl rfl ?_
    refine vv_get (v := .ref a_bytes) hC fl_X6_9 dX6_append_20 h_text rfl ?_
    refine vv_aload_n hC 0 dX6_append_23 rfl rfl ?_
    refine vv_get (v := .int (nI text_length)) hC fl_X6_15 dX6_append_24 h_text rfl ?_
    refine vv_iload_n hC 1 dX6_append_27 rfl rfl ?_
    refine vv_i2b hC dX6_append_28 ?_
    refine vv_bastn (t := text_length) hC dX6_append_29 h_bytes (by omega) (by decide) (fun w3 t1 hs => ?_)
    have t1 : w3 a_bytes = some (.inl (g.2.2.1 2, 96, .inl (upd bytes text_length (vp_nar .byte p1.toInt8.toInt32)))) := t1
    have h_text := hs _ _ (fw_oa h_text h_bytes) h_text
    have h_bytes := t1
    have hE := hE.trans (hs.mono (fun _ z => (Or.inr z)))
    refine vv_aload_n hC 0 dX6_append_30 rfl rfl ?_
    refine vv_dup hC dX6_append_31 rfl ?_
    refine vv_get (v := .int (nI text_length)) hC fl_X6_15 dX6_append_32 h_text rfl ?_
    refine vv_iconst (v := 1) hC dX6_append_35 (by decide) ?_
    refine vv_iadd hC dX6_append_36 ?_
    refine vv_topi (nI (text_length + 1)) (nI_add text_length 1) ?_
    refine vv_put hC fp_X6_15 dX6_append_37 h_text rfl rfl (Nat.le_of_ble_eq_true rfl) (fun w4 t1 hs => ?_)
    have t1 : w4 a_text = some (.inr (6, cTx a_bytes (text_length + 1))) := t1.trans (congrArg (fun z => some (Sum.inr (6, z))) (eTx_length _ _ _))
    have h_bytes := hs _ _ (fw_ao h_bytes h_text) h_bytes
    have h_text := t1
    have hE := hE.trans (hs.mono (fun _ z => (Or.inl z)))
    have hz := hJ2 w4
    try simp only [if_neg c1] at hz
    first | exact hz h_text h_bytes hE | (simp only [if_neg c1]; exact hz h_text h_bytes hE)
def f_X6_byteAt (text_length : Nat) (bytes : Nat → Int32) (p1 : Int32) : Int32 := (if p1 < 0 then (-9 : Int32) else (if nI text_length ≤ p1 then (-9 : Int32) else (if 96 ≤ p1 then (-9 : Int32) else (bytes p1.toNatClampNeg &&& 255))))
set_option maxHeartbeats 4000000 in
set_option maxRecDepth 100000 in
theorem c_X6_byteAt (g : GT) (w0 : Wd) (a_text : Nat) (a_bytes : Nat) (text_length : Nat) (bytes : Nat → Int32) (p1 : Int32) (h_text : w0 a_text = some (.inr (6, cTx a_bytes text_length))) (h_bytes : w0 a_bytes = some (.inl (g.2.2.1 2, 96, .inl bytes))) : CT g yX6_byteAt cX6_byteAt 2 (some .int) 0 0 0 0 w0 [.ref a_text, .int p1] (fun r w2 => r = some (.int (f_X6_byteAt text_length bytes p1)) ∧ w0 = w2) := by
  refine CT.of (own := RX6) (by decide +kernel) rfl (Nat.le_of_ble_eq_true rfl) (fun X hC hR hI => ?_)
  show V g X 2 w0 0 0 0 [(0, .ref a_text), (1, .int p1)] []
  refine vv_iload_n hC 1 dX6_byteAt_0 rfl rfl ?_
  have hJ2 : V g X 2 w0 0 0 36 [(0, .ref a_text), (1, .int p1)] [.int (if p1 < 0 then (-9 : Int32) else (if nI text_length ≤ p1 then (-9 : Int32) else (if 96 ≤ p1 then (-9 : Int32) else (bytes p1.toNatClampNeg &&& 255))))] := by
    have hf : (f_X6_byteAt text_length bytes p1) = (if p1 < 0 then (-9 : Int32) else (if nI text_length ≤ p1 then (-9 : Int32) else (if 96 ≤ p1 then (-9 : Int32) else (bytes p1.toNatClampNeg &&& 255)))) := by first | (simp only [f_X6_byteAt]; done) | rfl | (simp only [f_X6_byteAt]; rfl)
    refine vv_iret hC hR rfl dX6_byteAt_36 (by omega) (by omega) ?_
    rw [hf]
    exact ⟨rfl, rfl⟩
  refine vv_if_lt hC 34 dX6_byteAt_1 (by decide) (fun c1 => ?_) (fun c1 => ?_)
  · have c1 : p1 < 0 := c1
    refine vv_bipush (v := (-9)) hC dX6_byteAt_34 (by decide) ?_
    have hz := hJ2
    try simp only [if_pos c1] at hz
    first | exact hz | (simp only [if_pos c1]; exact hz)
  · have c1 : ¬ (p1 < 0) := c1
    refine vv_iload_n hC 1 dX6_byteAt_4 rfl rfl ?_
    refine vv_aload_n hC 0 dX6_byteAt_5 rfl rfl ?_
    refine vv_get (v := .int (nI text_length)) hC fl_X6_15 dX6_byteAt_6 h_text rfl ?_
    refine vv_icmp_ge hC 34 dX6_byteAt_9 (by decide) (fun c3 => ?_) (fun c3 => ?_)
    · have c3 : nI text_length ≤ p1 := c3
      refine vv_bipush (v := (-9)) hC dX6_byteAt_34 (by decide) ?_
      have hz := hJ2
      try simp only [if_neg c1, if_pos c3] at hz
      first | exact hz | (simp only [if_neg c1, if_pos c3]; exact hz)
    · have c3 : ¬ (nI text_length ≤ p1) := c3
      refine vv_iload_n hC 1 dX6_byteAt_12 rfl rfl ?_
      refine vv_aload_n hC 0 dX6_byteAt_13 rfl rfl ?_
      refine vv_get (v := .ref a_bytes) hC fl_X6_9 dX6_byteAt_14 h_text rfl ?_
      refine vv_alen_bald (v := nI 96) hC dX6_byteAt_17 h_bytes rfl ?_
      refine vv_topi (96) (by decide) ?_
      refine vv_icmp_ge hC 34 dX6_byteAt_18 (by decide) (fun c4 => ?_) (fun c4 => ?_)
      · have c4 : 96 ≤ p1 := c4
        refine vv_bipush (v := (-9)) hC dX6_byteAt_34 (by decide) ?_
        have hz := hJ2
        try simp only [if_neg c1, if_neg c3, if_pos c4] at hz
        first | exact hz | (simp only [if_neg c1, if_neg c3, if_pos c4]; exact hz)
      · have c4 : ¬ (96 ≤ p1) := c4
        refine vv_aload_n hC 0 dX6_byteAt_21 rfl rfl ?_
        refine vv_get (v := .ref a_bytes) hC fl_X6_9 dX6_byteAt_22 h_text rfl ?_
        refine vv_iload_n hC 1 dX6_byteAt_25 rfl rfl ?_
        refine vv_bald hC dX6_byteAt_26 h_bytes (fw_in c1 c4 (by decide)) ?_
        refine vv_sipush (v := (255)) hC dX6_byteAt_27 (by decide) ?_
        refine vv_iand hC dX6_byteAt_30 ?_
        refine vv_goto hC 36 dX6_byteAt_31 (by decide) ?_
        have hz := hJ2
        try simp only [if_neg c1, if_neg c3, if_neg c4] at hz
        first | exact hz | (simp only [if_neg c1, if_neg c3, if_neg c4]; exact hz)
def f_X4_add (sights_count : Nat) (kinds : Nat → Int32) (moons : Nat → Int32) (places : Nat → Int32) (values : Nat → Int32) (p1 : Int32) (p2 : Int32) (p3 : Int32) (p4 : Int32) : Int32 × Nat × (Nat → Int32) × (Nat → Int32) × (Nat → Int32) × (Nat → Int32) := (if sights_count < 6 then (nI (sights_count + 1), sights_count + 1, (f_X8_put kinds 6 (nI sights_count) p1), (f_X8_put moons 6 (nI sights_count) p2), (f_X8_put places 6 (nI sights_count) p3), (f_X8_put values 6 (nI sights_count) p4)) else ((-4), sights_count, kinds, moons, places, values))
set_option maxHeartbeats 4000000 in
set_option maxRecDepth 100000 in
theorem c_X4_add (g : GT) (w0 : Wd) (a_sights : Nat) (a_kinds : Nat) (a_moons : Nat) (a_places : Nat) (a_values : Nat) (sights_count : Nat) (kinds : Nat → Int32) (moons : Nat → Int32) (places : Nat → Int32) (values : Nat → Int32) (p1 : Int32) (p2 : Int32) (p3 : Int32) (p4 : Int32) (hsc : sights_count ≤ 6) (h_sights : w0 a_sights = some (.inr (4, cSi a_kinds a_moons a_places a_values sights_count))) (h_kinds : w0 a_kinds = some (.inl (g.2.2.1 0, 6, .inl kinds))) (h_moons : w0 a_moons = some (.inl (g.2.2.1 0, 6, .inl moons))) (h_places : w0 a_places = some (.inl (g.2.2.1 0, 6, .inl places))) (h_values : w0 a_values = some (.inl (g.2.2.1 0, 6, .inl values))) (ne_kinds_moons : ¬ a_kinds = a_moons) (ne_kinds_places : ¬ a_kinds = a_places) (ne_kinds_values : ¬ a_kinds = a_values) (ne_moons_places : ¬ a_moons = a_places) (ne_moons_values : ¬ a_moons = a_values) (ne_places_values : ¬ a_places = a_values) : CT g yX4_add cX4_add 5 (some .int) 1 22 0 0 w0 [.ref a_sights, .int p1, .int p2, .int p3, .int p4] (fun r w2 => r = some (.int ((f_X4_add sights_count kinds moons places values p1 p2 p3 p4).1)) ∧ w2 a_sights = some (.inr (4, cSi a_kinds a_moons a_places a_values ((f_X4_add sights_count kinds moons places values p1 p2 p3 p4).2.1))) ∧ w2 a_kinds = some (.inl (g.2.2.1 0, 6, .inl ((f_X4_add sights_count kinds moons places values p1 p2 p3 p4).2.2.1))) ∧ w2 a_moons = some (.inl (g.2.2.1 0, 6, .inl ((f_X4_add sights_count kinds moons places values p1 p2 p3 p4).2.2.2.1))) ∧ w2 a_places = some (.inl (g.2.2.1 0, 6, .inl ((f_X4_add sights_count kinds moons places values p1 p2 p3 p4).2.2.2.2.1))) ∧ w2 a_values = some (.inl (g.2.2.1 0, 6, .inl ((f_X4_add sights_count kinds moons places values p1 p2 p3 p4).2.2.2.2.2))) ∧ wE (fun q => q = a_sights ∨ q = a_kinds ∨ q = a_moons ∨ q = a_places ∨ q = a_values) w0 w2) := by
  refine CT.of (own := RX4) (by decide +kernel) rfl (Nat.le_of_ble_eq_true rfl) (fun X hC hR hI => ?_)
  show V g X 5 w0 0 0 0 [(0, .ref a_sights), (1, .int p1), (2, .int p2), (3, .int p3), (4, .int p4)] []
  have hE : wE (fun q => q = a_sights ∨ q = a_kinds ∨ q = a_moons ∨ q = a_places ∨ q = a_values) w0 w0 := wE.refl
  refine vv_aload_n hC 0 dX4_add_0 rfl rfl ?_
  refine vv_get (v := .int (nI sights_count)) hC fl_X4_24 dX4_add_1 h_sights rfl ?_
  refine vv_if_lt hC 16 dX4_add_4 (by decide) (fun c => absurd c (nI_neg (by omega))) (fun _ => ?_)
  refine vv_aload_n hC 0 dX4_add_7 rfl rfl ?_
  refine vv_get (v := .int (nI sights_count)) hC fl_X4_24 dX4_add_8 h_sights rfl ?_
  refine vv_bipush (v := (6)) hC dX4_add_11 (by decide) ?_
  refine vv_icmp_lt hC 19 dX4_add_13 (by decide) (fun c1 => ?_) (fun c1 => ?_)
  · have c1 : sights_count < 6 := (nI_lt_ (a := sights_count) (b := 6) (by omega) (by omega)).mp c1
    refine vv_aload_n hC 0 dX4_add_19 rfl rfl ?_
    refine vv_get (v := .ref a_kinds) hC fl_X4_9 dX4_add_20 h_sights rfl ?_
    refine vv_aload_n hC 0 dX4_add_23 rfl rfl ?_
    refine vv_get (v := .int (nI sights_count)) hC fl_X4_24 dX4_add_24 h_sights rfl ?_
    refine vv_iload_n hC 1 dX4_add_27 rfl rfl ?_
    refine vv_callSN hC dX4_add_28 md_X8_put lk_n_X4_28 lk_t_X8_put (As := [.ref a_kinds, .int (nI sights_count), .int p1]) (rest := []) (c_X8_put g w0 a_kinds 6 kinds (nI sights_count) p1 (by decide) h_kinds) rfl rfl (Nat.le_of_ble_eq_true rfl) ⟨by decide, by decide, by decide, by decide⟩ (fun r w9 hq => ?_)
    obtain ⟨rfl, t1, hs⟩ := hq
    obtain ⟨w2, rfl⟩ : ∃ z, z = w9 := ⟨_, rfl⟩
    have h_sights := hs _ _ (fw_oa h_sights h_kinds) h_sights
    have h_moons := hs _ _ (fun e => ne_kinds_moons e.symm) h_moons
    have h_places := hs _ _ (fun e => ne_kinds_places e.symm) h_places
    have h_values := hs _ _ (fun e => ne_kinds_values e.symm) h_values
    have h_kinds := t1
    have hE := hE.trans (hs.mono (fun _ z => (Or.inr (Or.inl z))))
    show V g X 5 w2 0 0 31 [(0, .ref a_sights), (1, .int p1), (2, .int p2), (3, .int p3), (4, .int p4)] []
    refine vv_aload_n hC 0 dX4_add_31 rfl rfl ?_
    refine vv_get (v := .ref a_moons) hC fl_X4_15 dX4_add_32 h_sights rfl ?_
    refine vv_aload_n hC 0 dX4_add_35 rfl rfl ?_
    refine vv_get (v := .int (nI sights_count)) hC fl_X4_24 dX4_add_36 h_sights rfl ?_
    refine vv_iload_n hC 2 dX4_add_39 rfl rfl ?_
    refine vv_callSN hC dX4_add_40 md_X8_put lk_n_X4_28 lk_t_X8_put (As := [.ref a_moons, .int (nI sights_count), .int p2]) (rest := []) (c_X8_put g w2 a_moons 6 moons (nI sights_count) p2 (by decide) h_moons) rfl rfl (Nat.le_of_ble_eq_true rfl) ⟨by decide, by decide, by decide, by decide⟩ (fun r w9 hq => ?_)
    obtain ⟨rfl, t1, hs⟩ := hq
    obtain ⟨w3, rfl⟩ : ∃ z, z = w9 := ⟨_, rfl⟩
    have h_sights := hs _ _ (fw_oa h_sights h_moons) h_sights
    have h_kinds := hs _ _ ne_kinds_moons h_kinds
    have h_places := hs _ _ (fun e => ne_moons_places e.symm) h_places
    have h_values := hs _ _ (fun e => ne_moons_values e.symm) h_values
    have h_moons := t1
    have hE := hE.trans (hs.mono (fun _ z => (Or.inr (Or.inr (Or.inl z)))))
    show V g X 5 w3 0 0 43 [(0, .ref a_sights), (1, .int p1), (2, .int p2), (3, .int p3), (4, .int p4)] []
    refine vv_aload_n hC 0 dX4_add_43 rfl rfl ?_
    refine vv_get (v := .ref a_places) hC fl_X4_18 dX4_add_44 h_sights rfl ?_
    refine vv_aload_n hC 0 dX4_add_47 rfl rfl ?_
    refine vv_get (v := .int (nI sights_count)) hC fl_X4_24 dX4_add_48 h_sights rfl ?_
    refine vv_iload_n hC 3 dX4_add_51 rfl rfl ?_
    refine vv_callSN hC dX4_add_52 md_X8_put lk_n_X4_28 lk_t_X8_put (As := [.ref a_places, .int (nI sights_count), .int p3]) (rest := []) (c_X8_put g w3 a_places 6 places (nI sights_count) p3 (by decide) h_places) rfl rfl (Nat.le_of_ble_eq_true rfl) ⟨by decide, by decide, by decide, by decide⟩ (fun r w9 hq => ?_)
    obtain ⟨rfl, t1, hs⟩ := hq
    obtain ⟨w4, rfl⟩ : ∃ z, z = w9 := ⟨_, rfl⟩
    have h_sights := hs _ _ (fw_oa h_sights h_places) h_sights
    have h_kinds := hs _ _ ne_kinds_places h_kinds
    have h_moons := hs _ _ ne_moons_places h_moons
    have h_values := hs _ _ (fun e => ne_places_values e.symm) h_values
    have h_places := t1
    have hE := hE.trans (hs.mono (fun _ z => (Or.inr (Or.inr (Or.inr (Or.inl z))))))
    show V g X 5 w4 0 0 55 [(0, .ref a_sights), (1, .int p1), (2, .int p2), (3, .int p3), (4, .int p4)] []
    refine vv_aload_n hC 0 dX4_add_55 rfl rfl ?_
    refine vv_get (v := .ref a_values) hC fl_X4_21 dX4_add_56 h_sights rfl ?_
    refine vv_aload_n hC 0 dX4_add_59 rfl rfl ?_
    refine vv_get (v := .int (nI sights_count)) hC fl_X4_24 dX4_add_60 h_sights rfl ?_
    refine vv_iload hC 4 dX4_add_63 rfl ?_
    refine vv_callSN hC dX4_add_65 md_X8_put lk_n_X4_28 lk_t_X8_put (As := [.ref a_values, .int (nI sights_count), .int p4]) (rest := []) (c_X8_put g w4 a_values 6 values (nI sights_count) p4 (by decide) h_values) rfl rfl (Nat.le_of_ble_eq_true rfl) ⟨by decide, by decide, by decide, by decide⟩ (fun r w9 hq => ?_)
    obtain ⟨rfl, t1, hs⟩ := hq
    obtain ⟨w5, rfl⟩ : ∃ z, z = w9 := ⟨_, rfl⟩
    have h_sights := hs _ _ (fw_oa h_sights h_values) h_sights
    have h_kinds := hs _ _ ne_kinds_values h_kinds
    have h_moons := hs _ _ ne_moons_values h_moons
    have h_places := hs _ _ ne_places_values h_places
    have h_values := t1
    have hE := hE.trans (hs.mono (fun _ z => (Or.inr (Or.inr (Or.inr (Or.inr z))))))
    show V g X 5 w5 0 0 68 [(0, .ref a_sights), (1, .int p1), (2, .int p2), (3, .int p3), (4, .int p4)] []
    refine vv_aload_n hC 0 dX4_add_68 rfl rfl ?_
    refine vv_dup hC dX4_add_69 rfl ?_
    refine vv_get (v := .int (nI sights_count)) hC fl_X4_24 dX4_add_70 h_sights rfl ?_
    refine vv_iconst (v := 1) hC dX4_add_73 (by decide) ?_
    refine vv_iadd hC dX4_add_74 ?_
    refine vv_topi (nI (sights_count + 1)) (nI_add sights_count 1) ?_
    refine vv_put hC fp_X4_24 dX4_add_75 h_sights rfl rfl (Nat.le_of_ble_eq_true rfl) (fun w6 t1 hs => ?_)
    have t1 : w6 a_sights = some (.inr (4, cSi a_kinds a_moons a_places a_values (sights_count + 1))) := t1.trans (congrArg (fun z => some (Sum.inr (4, z))) (eSi_count _ _ _ _ _ _))
    have h_kinds := hs _ _ (fw_ao h_kinds h_sights) h_kinds
    have h_moons := hs _ _ (fw_ao h_moons h_sights) h_moons
    have h_places := hs _ _ (fw_ao h_places h_sights) h_places
    have h_values := hs _ _ (fw_ao h_values h_sights) h_values
    have h_sights := t1
    have hE := hE.trans (hs.mono (fun _ z => (Or.inl z)))
    refine vv_aload_n hC 0 dX4_add_78 rfl rfl ?_
    refine vv_get (v := .int (nI (sights_count + 1))) hC fl_X4_24 dX4_add_79 h_sights rfl ?_
    have hf : (f_X4_add sights_count kinds moons places values p1 p2 p3 p4) = (nI (sights_count + 1), sights_count + 1, (f_X8_put kinds 6 (nI sights_count) p1), (f_X8_put moons 6 (nI sights_count) p2), (f_X8_put places 6 (nI sights_count) p3), (f_X8_put values 6 (nI sights_count) p4)) := by first | (simp only [f_X4_add, if_pos c1]; done) | rfl | (simp only [f_X4_add, if_pos c1]; rfl)
    refine vv_iret hC hR rfl dX4_add_82 (by omega) (by omega) ?_
    rw [hf]
    try dsimp only
    exact ⟨rfl, h_sights, h_kinds, h_moons, h_places, h_values, hE⟩
  · have c1 : ¬ (sights_count < 6) := fun z => c1 ((nI_lt_ (a := sights_count) (b := 6) (by omega) (by omega)).mpr z)
    refine vv_bipush (v := (-4)) hC dX4_add_16 (by decide) ?_
    have hf : (f_X4_add sights_count kinds moons places values p1 p2 p3 p4) = ((-4), sights_count, kinds, moons, places, values) := by first | (simp only [f_X4_add, if_neg c1]; done) | rfl | (simp only [f_X4_add, if_neg c1]; rfl)
    refine vv_iret hC hR rfl dX4_add_18 (by omega) (by omega) ?_
    rw [hf]
    try dsimp only
    exact ⟨rfl, h_sights, h_kinds, h_moons, h_places, h_values, hE⟩
def f_X4_isOf (kinds : Nat → Int32) (moons : Nat → Int32) (p1 : Int32) (p2 : Int32) (p3 : Int32) : Bool := (if f_X8_at kinds 6 p1 = p2 then (if f_X8_at moons 6 p1 = p3 then true else false) else false)
set_option maxHeartbeats 4000000 in
set_option maxRecDepth 100000 in
theorem c_X4_isOf (g : GT) (w0 : Wd) (a_sights : Nat) (a_kinds : Nat) (a_moons : Nat) (a_places : Nat) (a_values : Nat) (sights_count : Nat) (kinds : Nat → Int32) (moons : Nat → Int32) (p1 : Int32) (p2 : Int32) (p3 : Int32) (h_sights : w0 a_sights = some (.inr (4, cSi a_kinds a_moons a_places a_values sights_count))) (h_kinds : w0 a_kinds = some (.inl (g.2.2.1 0, 6, .inl kinds))) (h_moons : w0 a_moons = some (.inl (g.2.2.1 0, 6, .inl moons))) : CT g yX4_isOf cX4_isOf 4 (some .boolean) 1 21 0 0 w0 [.ref a_sights, .int p1, .int p2, .int p3] (fun r w2 => r = some (.int (bI (f_X4_isOf kinds moons p1 p2 p3))) ∧ w0 = w2) := by
  refine CT.of (own := RX4) (by decide +kernel) rfl (Nat.le_of_ble_eq_true rfl) (fun X hC hR hI => ?_)
  show V g X 4 w0 0 0 0 [(0, .ref a_sights), (1, .int p1), (2, .int p2), (3, .int p3)] []
  refine vv_aload_n hC 0 dX4_isOf_0 rfl rfl ?_
  refine vv_get (v := .ref a_kinds) hC fl_X4_9 dX4_isOf_1 h_sights rfl ?_
  refine vv_iload_n hC 1 dX4_isOf_4 rfl rfl ?_
  refine vv_callSN hC dX4_isOf_5 md_X8_at lk_n_X4_32 lk_t_X8_at (As := [.ref a_kinds, .int p1]) (rest := []) (c_X8_at g w0 a_kinds 6 kinds p1 (by decide) h_kinds) rfl rfl (Nat.le_of_ble_eq_true rfl) ⟨by decide, by decide, by decide, by decide⟩ (fun r w9 hq => ?_)
  obtain ⟨rfl, rfl⟩ := hq
  show V g X 4 w0 0 0 8 [(0, .ref a_sights), (1, .int p1), (2, .int p2), (3, .int p3)] [.int (f_X8_at kinds 6 p1)]
  refine vv_iload_n hC 2 dX4_isOf_8 rfl rfl ?_
  have hJ2 : V g X 4 w0 0 0 29 [(0, .ref a_sights), (1, .int p1), (2, .int p2), (3, .int p3)] [.int (bI (if f_X8_at kinds 6 p1 = p2 then (if f_X8_at moons 6 p1 = p3 then true else false) else false))] := by
    have hf : (f_X4_isOf kinds moons p1 p2 p3) = (if f_X8_at kinds 6 p1 = p2 then (if f_X8_at moons 6 p1 = p3 then true else false) else false) := by first | (simp only [f_X4_isOf]; done) | rfl | (simp only [f_X4_isOf]; rfl)
    refine vv_zret hC hR rfl (bI_nar _) dX4_isOf_29 (by omega) (by omega) ?_
    rw [hf]
    exact ⟨rfl, rfl⟩
  refine vv_icmp_ne hC 28 dX4_isOf_9 (by decide) (fun c1 => ?_) (fun c1 => ?_)
  · have c1 : ¬ (f_X8_at kinds 6 p1 = p2) := c1
    refine vv_iconst (v := 0) hC dX4_isOf_28 (by decide) ?_
    have hz := hJ2
    try simp only [if_neg c1] at hz
    first | exact hz | (simp only [if_neg c1]; exact hz)
  · have c1 : f_X8_at kinds 6 p1 = p2 := c1
    refine vv_aload_n hC 0 dX4_isOf_12 rfl rfl ?_
    refine vv_get (v := .ref a_moons) hC fl_X4_15 dX4_isOf_13 h_sights rfl ?_
    refine vv_iload_n hC 1 dX4_isOf_16 rfl rfl ?_
    refine vv_callSN hC dX4_isOf_17 md_X8_at lk_n_X4_32 lk_t_X8_at (As := [.ref a_moons, .int p1]) (rest := []) (c_X8_at g w0 a_moons 6 moons p1 (by decide) h_moons) rfl rfl (Nat.le_of_ble_eq_true rfl) ⟨by decide, by decide, by decide, by decide⟩ (fun r w9 hq => ?_)
    obtain ⟨rfl, rfl⟩ := hq
    show V g X 4 w0 0 0 20 [(0, .ref a_sights), (1, .int p1), (2, .int p2), (3, .int p3)] [.int (f_X8_at moons 6 p1)]
    refine vv_iload_n hC 3 dX4_isOf_20 rfl rfl ?_
    refine vv_icmp_ne hC 28 dX4_isOf_21 (by decide) (fun c3 => ?_) (fun c3 => ?_)
    · have c3 : ¬ (f_X8_at moons 6 p1 = p3) := c3
      refine vv_iconst (v := 0) hC dX4_isOf_28 (by decide) ?_
      have hz := hJ2
      try simp only [if_pos c1, if_neg c3] at hz
      first | exact hz | (simp only [if_pos c1, if_neg c3]; exact hz)
    · have c3 : f_X8_at moons 6 p1 = p3 := c3
      refine vv_iconst (v := 1) hC dX4_isOf_24 (by decide) ?_
      refine vv_goto hC 29 dX4_isOf_25 (by decide) ?_
      have hz := hJ2
      try simp only [if_pos c1, if_pos c3] at hz
      first | exact hz | (simp only [if_pos c1, if_pos c3]; exact hz)
def f_X4_place (places : Nat → Int32) (p1 : Int32) : Int32 := f_X8_at places 6 p1
set_option maxHeartbeats 4000000 in
set_option maxRecDepth 100000 in
theorem c_X4_place (g : GT) (w0 : Wd) (a_sights : Nat) (a_kinds : Nat) (a_moons : Nat) (a_places : Nat) (a_values : Nat) (sights_count : Nat) (places : Nat → Int32) (p1 : Int32) (h_sights : w0 a_sights = some (.inr (4, cSi a_kinds a_moons a_places a_values sights_count))) (h_places : w0 a_places = some (.inl (g.2.2.1 0, 6, .inl places))) : CT g yX4_place cX4_place 2 (some .int) 1 21 0 0 w0 [.ref a_sights, .int p1] (fun r w2 => r = some (.int (f_X4_place places p1)) ∧ w0 = w2) := by
  refine CT.of (own := RX4) (by decide +kernel) rfl (Nat.le_of_ble_eq_true rfl) (fun X hC hR hI => ?_)
  show V g X 2 w0 0 0 0 [(0, .ref a_sights), (1, .int p1)] []
  refine vv_aload_n hC 0 dX4_place_0 rfl rfl ?_
  refine vv_get (v := .ref a_places) hC fl_X4_18 dX4_place_1 h_sights rfl ?_
  refine vv_iload_n hC 1 dX4_place_4 rfl rfl ?_
  refine vv_callSN hC dX4_place_5 md_X8_at lk_n_X4_32 lk_t_X8_at (As := [.ref a_places, .int p1]) (rest := []) (c_X8_at g w0 a_places 6 places p1 (by decide) h_places) rfl rfl (Nat.le_of_ble_eq_true rfl) ⟨by decide, by decide, by decide, by decide⟩ (fun r w9 hq => ?_)
  obtain ⟨rfl, rfl⟩ := hq
  show V g X 2 w0 0 0 8 [(0, .ref a_sights), (1, .int p1)] [.int (f_X8_at places 6 p1)]
  have hf : (f_X4_place places p1) = f_X8_at places 6 p1 := by first | (simp only [f_X4_place]; done) | rfl | (simp only [f_X4_place]; rfl)
  refine vv_iret hC hR rfl dX4_place_8 (by omega) (by omega) ?_
  rw [hf]
  exact ⟨rfl, rfl⟩
def f_X4_value (values : Nat → Int32) (p1 : Int32) : Int32 := f_X8_at values 6 p1
set_option maxHeartbeats 4000000 in
set_option maxRecDepth 100000 in
theorem c_X4_value (g : GT) (w0 : Wd) (a_sights : Nat) (a_kinds : Nat) (a_moons : Nat) (a_places : Nat) (a_values : Nat) (sights_count : Nat) (values : Nat → Int32) (p1 : Int32) (h_sights : w0 a_sights = some (.inr (4, cSi a_kinds a_moons a_places a_values sights_count))) (h_values : w0 a_values = some (.inl (g.2.2.1 0, 6, .inl values))) : CT g yX4_value cX4_value 2 (some .int) 1 21 0 0 w0 [.ref a_sights, .int p1] (fun r w2 => r = some (.int (f_X4_value values p1)) ∧ w0 = w2) := by
  refine CT.of (own := RX4) (by decide +kernel) rfl (Nat.le_of_ble_eq_true rfl) (fun X hC hR hI => ?_)
  show V g X 2 w0 0 0 0 [(0, .ref a_sights), (1, .int p1)] []
  refine vv_aload_n hC 0 dX4_value_0 rfl rfl ?_
  refine vv_get (v := .ref a_values) hC fl_X4_21 dX4_value_1 h_sights rfl ?_
  refine vv_iload_n hC 1 dX4_value_4 rfl rfl ?_
  refine vv_callSN hC dX4_value_5 md_X8_at lk_n_X4_32 lk_t_X8_at (As := [.ref a_values, .int p1]) (rest := []) (c_X8_at g w0 a_values 6 values p1 (by decide) h_values) rfl rfl (Nat.le_of_ble_eq_true rfl) ⟨by decide, by decide, by decide, by decide⟩ (fun r w9 hq => ?_)
  obtain ⟨rfl, rfl⟩ := hq
  show V g X 2 w0 0 0 8 [(0, .ref a_sights), (1, .int p1)] [.int (f_X8_at values 6 p1)]
  have hf : (f_X4_value values p1) = f_X8_at values 6 p1 := by first | (simp only [f_X4_value]; done) | rfl | (simp only [f_X4_value]; rfl)
  refine vv_iret hC hR rfl dX4_value_8 (by omega) (by omega) ?_
  rw [hf]
  exact ⟨rfl, rfl⟩
def f_X0_clear : Nat := 0
set_option maxHeartbeats 4000000 in
set_option maxRecDepth 100000 in
theorem c_X0_clear (g : GT) (w0 : Wd) (a_acts : Nat) (a_before : Nat) (acts_start : Nat) (acts_count : Nat) (h_acts : w0 a_acts = some (.inr (0, cAc a_before (acts_start, acts_count)))) : CT g yX0_clear cX0_clear 1 none 0 0 0 0 w0 [.ref a_acts] (fun r w2 => r = none ∧ w2 a_acts = some (.inr (0, cAc a_before (acts_start, f_X0_clear))) ∧ wE (fun q => q = a_acts) w0 w2) := by
  refine CT.of (own := RX0) (by decide +kernel) rfl (Nat.le_of_ble_eq_true rfl) (fun X hC hR hI => ?_)
  show V g X 1 w0 0 0 0 [(0, .ref a_acts)] []
  have hE : wE (fun q => q = a_acts) w0 w0 := wE.refl
  refine vv_aload_n hC 0 dX0_clear_0 rfl rfl ?_
  refine vv_iconst (v := 0) hC dX0_clear_1 (by decide) ?_
  refine vv_put hC fp_X0_21 dX0_clear_2 h_acts rfl rfl (Nat.le_of_ble_eq_true rfl) (fun w1 t1 hs => ?_)
  have t1 : w1 a_acts = some (.inr (0, cAc a_before (acts_start, 0))) := t1.trans (congrArg (fun z => some (Sum.inr (0, z))) (eAc_count _ _ _ _))
  have h_acts := t1
  have hE := hE.trans (hs.mono (fun _ z => z))
  have hf : f_X0_clear = 0 := by first | (simp only [f_X0_clear]; done) | rfl | (simp only [f_X0_clear]; rfl)
  refine vv_vret hC hR rfl dX0_clear_5 (by omega) (by omega) ?_
  rw [hf]
  exact ⟨rfl, h_acts, hE⟩
