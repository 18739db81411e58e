def f_X8_write_L36 (p2 : Int64) : Nat → Nat → (Nat → Int32) → Nat × (Nat → Int32)
  | 0, y_text_length_36, y_bytes_36 => (y_text_length_36, y_bytes_36)
  | r36 + 1, y_text_length_36, y_bytes_36 => f_X8_write_L36 p2 r36 ((f_X6_append y_text_length_36 y_bytes_36 ((lushr p2 (nI (8 * r36))).toInt32 &&& 255)).1) ((f_X6_append y_text_length_36 y_bytes_36 ((lushr p2 (nI (8 * r36))).toInt32 &&& 255)).2)
def f_X8_write (text_length : Nat) (bytes : Nat → Int32) (p1 : Int32) (p2 : Int64) : Int32 × Nat × (Nat → Int32) := (if p1 < 1 then ((-2), text_length, bytes) else (if p1 ≤ 8 then (if text_length + tn p1 ≤ 96 then (nI ((f_X8_write_L36 p2 (((tn p1) - 1) + 1) text_length bytes).1), (f_X8_write_L36 p2 (((tn p1) - 1) + 1) text_length bytes).1, (f_X8_write_L36 p2 (((tn p1) - 1) + 1) text_length bytes).2) else ((-4), text_length, bytes)) else ((-2), text_length, bytes)))
set_option maxHeartbeats 4000000 in
set_option maxRecDepth 100000 in
theorem c_X8_write (g : GT) (w0 : Wd) (A : Nat → Nat) (hA : ∀ i j, i < 60 → j < 60 → A i = A j → i = j) (vi : Nat) (who_keptSlots : Int32) (who_seed : Int64) (text_length : Nat) (bytes : Nat → Int32) (p1 : Int32) (p2 : Int64) (htl : text_length ≤ 96) (h_who : w0 (A 0) = some (.inr (8, cWh A vi (who_keptSlots, who_seed)))) (h_text : w0 (A 1) = some (.inr (6, cTx (A 2) text_length))) (h_bytes : w0 (A 2) = some (.inl (g.2.2.1 2, 96, .inl bytes))) : CT g yX8_write cX8_write 5 (some .int) 1 21 0 0 w0 [.ref (A 0), .int p1, .long p2] (fun r w2 => r = some (.int ((f_X8_write text_length bytes p1 p2).1)) ∧ w2 (A 1) = some (.inr (6, cTx (A 2) ((f_X8_write text_length bytes p1 p2).2.1))) ∧ w2 (A 2) = some (.inl (g.2.2.1 2, 96, .inl ((f_X8_write text_length bytes p1 p2).2.2))) ∧ wE (fun q => q = (A 1) ∨ q = (A 2)) w0 w2) := by
  refine CT.of (own := RX8) (by decide +kernel) rfl (Nat.le_of_ble_eq_true rfl) (fun X hC hR hI => ?_)
  show V g X 5 w0 0 0 0 [(0, .ref (A 0)), (1, .int p1), (2, .long p2)] []
  have hE : wE (fun q => q = (A 1) ∨ q = (A 2)) w0 w0 := wE.refl
  refine vv_iload_n hC 1 dX8_write_0 rfl rfl ?_
  refine vv_iconst (v := 1) hC dX8_write_1 (by decide) ?_
  refine vv_icmp_lt hC 11 dX8_write_2 (by decide) (fun c1 => ?_) (fun c1 => ?_)
  · have c1 : p1 < 1 := c1
    refine vv_bipush (v := (-2)) hC dX8_write_11 (by decide) ?_
    have hf : (f_X8_write text_length bytes p1 p2) = ((-2), text_length, bytes) := by first | (simp only [f_X8_write, if_pos c1]; done) | rfl | (simp only [f_X8_write, if_pos c1]; rfl)
    refine vv_iret hC hR rfl dX8_write_13 (by omega) (by omega) ?_
    rw [hf]
    try dsimp only
    exact ⟨rfl, h_text, h_bytes, hE⟩
  · have c1 : ¬ (p1 < 1) := c1
    refine vv_iload_n hC 1 dX8_write_5 rfl rfl ?_
    refine vv_bipush (v := (8)) hC dX8_write_6 (by decide) ?_
    refine vv_icmp_le hC 14 dX8_write_8 (by decide) (fun c2 => ?_) (fun c2 => ?_)
    · have c2 : p1 ≤ 8 := c2
      have hpb := (c18_e (n := 8) c1 (Int32.not_lt.mpr c2) (by decide)).2
      refine vv_aload_n hC 0 dX8_write_14 rfl rfl ?_
      refine vv_get (v := .ref (A 1)) hC fl_X8_10 dX8_write_15 h_who rfl ?_
      refine vv_getN (v := .int (nI text_length)) hC fl_X8_77 dX8_write_18 h_text rfl ?_
      refine vv_iload_n hC 1 dX8_write_21 rfl rfl ?_
      refine vv_topi (nI (tn p1)) ((c18_e (n := 8) c1 (Int32.not_lt.mpr c2) (by decide)).1) ?_
      refine vv_iadd hC dX8_write_22 ?_
      refine vv_topi (nI (text_length + tn p1)) (nI_add text_length (tn p1)) ?_
      refine vv_bipush (v := (96)) hC dX8_write_23 (by decide) ?_
      refine vv_icmp_le hC 31 dX8_write_25 (by decide) (fun c3 => ?_) (fun c3 => ?_)
      · have c3 : text_length + tn p1 ≤ 96 := (nI_le_ (a := text_length + tn p1) (b := 96) (by omega) (by omega)).mp c3
        refine vv_iload_n hC 1 dX8_write_31 rfl rfl ?_
        refine vv_topi (nI (tn p1)) ((c18_e (n := 8) c1 (Int32.not_lt.mpr c2) (by decide)).1) ?_
        refine vv_iconst (v := 1) hC dX8_write_32 (by decide) ?_
        refine vv_isub hC dX8_write_33 ?_
        refine vv_topi (nI ((tn p1) - 1)) (pk_sub (a := tn p1) (b := 1) (by omega)) ?_
        refine vv_istore (lv2 := [(4, .int (nI ((tn p1) - 1))), (0, .ref (A 0)), (1, .int p1), (2, .long p2)]) hC dX8_write_34 (by decide) rfl ?_
        have hL7 : ∀ (r36 : Nat) (y_text_length_36 : Nat) (y_bytes_36 : Nat → Int32) (w4 : Wd) (out : Nat × (Nat → Int32)), y_text_length_36 + r36 ≤ 96 → out = f_X8_write_L36 p2 r36 y_text_length_36 y_bytes_36 → w4 (A 0) = some (.inr (8, cWh A vi (who_keptSlots, who_seed))) → w4 (A 1) = some (.inr (6, cTx (A 2) y_text_length_36)) → w4 (A 2) = some (.inl (g.2.2.1 2, 96, .inl y_bytes_36)) → wE (fun q => q = (A 1) ∨ q = (A 2)) w0 w4 → (∀ w6 : Wd, w6 (A 0) = some (.inr (8, cWh A vi (who_keptSlots, who_seed))) → w6 (A 1) = some (.inr (6, cTx (A 2) out.1)) → w6 (A 2) = some (.inl (g.2.2.1 2, 96, .inl out.2)) → wE (fun q => q = (A 1) ∨ q = (A 2)) w0 w6 → V g X 5 w6 0 0 66 [(0, .ref (A 0)), (1, .int p1), (2, .long p2)] []) → V g X 5 w4 0 0 36 [(0, .ref (A 0)), (1, .int p1), (2, .long p2), (4, .int (nI r36 - 1))] [] := by
          intro r36
          induction r36 with
          | zero =>
            intro y_text_length_36 y_bytes_36 w4 out htl2 ho h_who h_text h_bytes hE hk
            refine vv_iload hC 3 dX8_write_36 rfl ?_
            refine vv_if_lt hC 66 dX8_write_38 (by decide) (fun c => ?_) (fun c => absurd (c) (by first | omega | decide))
            refine vv_lv [0, 1, 2] rfl ?_
            have ho := ho.trans (by first | (simp only [f_X8_write_L36]; done) | rfl | (simp only [f_X8_write_L36]; rfl) : _ = (y_text_length_36, y_bytes_36))
            subst ho
            exact hk w4 h_who h_text h_bytes hE
          | succ r36 ih =>
            intro y_text_length_36 y_bytes_36 w4 out htl2 ho h_who h_text h_bytes hE hk
            rw [nI_pred]
            refine vv_iload hC 3 dX8_write_36 rfl ?_
            refine vv_if_lt hC 66 dX8_write_38 (by decide) (fun c => absurd c (nI_neg (by omega))) (fun _ => ?_)
            refine vv_aload_n hC 0 dX8_write_41 rfl rfl ?_
            refine vv_get (v := .ref (A 1)) hC fl_X8_10 dX8_write_42 h_who rfl ?_
            refine vv_lload_n hC 2 dX8_write_45 rfl rfl ?_
            refine vv_bipush (v := (8)) hC dX8_write_46 (by decide) ?_
            refine vv_iload hC 3 dX8_write_48 rfl ?_
            refine vv_imul hC dX8_write_50 ?_
            refine vv_topi (nI (8 * r36)) (pk_mul 8 r36) ?_
            refine vv_lushr hC dX8_write_51 ?_
            refine vv_l2i hC dX8_write_52 ?_
            refine vv_sipush (v := (255)) hC dX8_write_53 (by decide) ?_
            refine vv_iand hC dX8_write_56 ?_
            refine vv_callV hC dX8_write_57 md_X6_append lk_m_X8_80 lk_i_X6_append lk_s_X6_append h_text rfl (As := [.int ((lushr p2 (nI (8 * r36))).toInt32 &&& 255)]) (rest := []) (c_X6_append g w4 (A 1) (A 2) y_text_length_36 y_bytes_36 ((lushr p2 (nI (8 * r36))).toInt32 &&& 255) (by omega) h_text h_bytes) rfl rfl (Nat.le_of_ble_eq_true rfl) ⟨by decide, by decide, by decide, by decide⟩ (fun r w9 hq => ?_)
            obtain ⟨rfl, t1, t2, hs⟩ := hq
            obtain ⟨w5, rfl⟩ : ∃ z, z = w9 := ⟨_, rfl⟩
            have h_who := hs _ _ (fun z => z.elim (fw_oo h_who h_text (by decide)) (fw_oa h_who h_bytes)) h_who
            have h_text := t1
            have h_bytes := t2
            have hE := hE.trans (hs.mono (fun _ z => z.elim (fun z => (Or.inl z)) (fun z => (Or.inr z))))
            show V g X 5 w5 0 0 60 [(0, .ref (A 0)), (1, .int p1), (2, .long p2), (4, .int (nI r36))] []
            refine vv_iinc (lv2 := [(4, .int (nI r36 - 1)), (0, .ref (A 0)), (1, .int p1), (2, .long p2)]) hC 3 dX8_write_60 rfl (i32_m1 _) (by decide) rfl ?_
            refine vv_goto hC 36 dX8_write_63 (by decide) ?_
            refine vv_lv [1, 2, 3, 0] rfl ?_
            exact ih ((f_X6_append y_text_length_36 y_bytes_36 ((lushr p2 (nI (8 * r36))).toInt32 &&& 255)).1) ((f_X6_append y_text_length_36 y_bytes_36 ((lushr p2 (nI (8 * r36))).toInt32 &&& 255)).2) w5 out (app_l htl2) (ho.trans (by first | (simp only [f_X8_write_L36]; done) | rfl | (simp only [f_X8_write_L36]; rfl))) h_who h_text h_bytes hE hk
        refine vv_lv [1, 2, 3, 0] rfl ?_
        rw [← nI_pred ((tn p1) - 1)]
        refine hL7 (((tn p1) - 1) + 1) text_length bytes w0 (f_X8_write_L36 p2 (((tn p1) - 1) + 1) text_length bytes) (by omega) rfl h_who h_text h_bytes hE ?_
        intro w6 h_who h_text h_bytes hE
        refine vv_aload_n hC 0 dX8_write_66 rfl rfl ?_
        refine vv_get (v := .ref (A 1)) hC fl_X8_10 dX8_write_67 h_who rfl ?_
        refine vv_getN (v := .int (nI ((f_X8_write_L36 p2 (((tn p1) - 1) + 1) text_length bytes).1))) hC fl_X8_77 dX8_write_70 h_text rfl ?_
        have hf : (f_X8_write text_length bytes p1 p2) = (nI ((f_X8_write_L36 p2 (((tn p1) - 1) + 1) text_length bytes).1), (f_X8_write_L36 p2 (((tn p1) - 1) + 1) text_length bytes).1, (f_X8_write_L36 p2 (((tn p1) - 1) + 1) text_length bytes).2) := by first | (simp only [f_X8_write, if_neg c1, if_pos c2, if_pos c3]; done) | rfl | (simp only [f_X8_write, if_neg c1, if_pos c2, if_pos c3]; rfl)
        refine vv_iret hC hR rfl dX8_write_73 (by omega) (by omega) ?_
        rw [hf]
        try dsimp only
        exact ⟨rfl, h_text, h_bytes, hE⟩
      · have c3 : ¬ (text_length + tn p1 ≤ 96) := fun z => c3 ((nI_le_ (a := text_length + tn p1) (b := 96) (by omega) (by omega)).mpr z)
        refine vv_bipush (v := (-4)) hC dX8_write_28 (by decide) ?_
        have hf : (f_X8_write text_length bytes p1 p2) = ((-4), text_length, bytes) := by first | (simp only [f_X8_write, if_neg c1, if_pos c2, if_neg c3]; done) | rfl | (simp only [f_X8_write, if_neg c1, if_pos c2, if_neg c3]; rfl)
        refine vv_iret hC hR rfl dX8_write_30 (by omega) (by omega) ?_
        rw [hf]
        try dsimp only
        exact ⟨rfl, h_text, h_bytes, hE⟩
    · have c2 : ¬ (p1 ≤ 8) := c2
      refine vv_bipush (v := (-2)) hC dX8_write_11 (by decide) ?_
      have hf : (f_X8_write text_length bytes p1 p2) = ((-2), text_length, bytes) := by first | (simp only [f_X8_write, if_neg c1, if_neg c2]; done) | rfl | (simp only [f_X8_write, if_neg c1, if_neg c2]; rfl)
      refine vv_iret hC hR rfl dX8_write_13 (by omega) (by omega) ?_
      rw [hf]
      try dsimp only
      exact ⟨rfl, h_text, h_bytes, hE⟩
def f_X8_judge_L56 (k43 : Nat) : Nat → Int32 → Nat → Int32 × Nat
  | 0, l4_56, l5_56 => (l4_56, l5_56)
  | r56 + 1, l4_56, l5_56 => (if l5_56 ≤ k43 then (l4_56, l5_56) else f_X8_judge_L56 k43 r56 (l4_56 / 100) (l5_56 - 1))
def f_X8_judge_L56_E (k43 : Nat) : Nat → Int32 → Nat → Bool
  | 0, l4_56, l5_56 => (if l5_56 ≤ k43 then true else false)
  | r56 + 1, l4_56, l5_56 => (if l5_56 ≤ k43 then true else f_X8_judge_L56_E k43 r56 (l4_56 / 100) (l5_56 - 1))
def f_X8_judge_L43 (village : TVi) (p1 : Int32) (p2 : Int32) : Nat → Nat → TN → Int32 × TN
  | 0, k43, y_thought_43 => ((-9), y_thought_43)
  | r43 + 1, k43, y_thought_43 => (if f_X8_noPerson village (((f_X8_judge_L56 k43 fuelC p2 ((tn p1) - 1)).1 / 10) - ((f_X8_judge_L56 k43 fuelC p2 ((tn p1) - 1)).1 / 10) / 10 * 10) = true then (nI k43, y_thought_43) else (if f_X8_noHouse village ((f_X8_judge_L56 k43 fuelC p2 ((tn p1) - 1)).1 - (f_X8_judge_L56 k43 fuelC p2 ((tn p1) - 1)).1 / 10 * 10) = true then (nI k43, y_thought_43) else (if f_X8_has (f_X2_goals y_thought_43 village (((f_X8_judge_L56 k43 fuelC p2 ((tn p1) - 1)).1 / 10) - ((f_X8_judge_L56 k43 fuelC p2 ((tn p1) - 1)).1 / 10) / 10 * 10)) ((f_X8_judge_L56 k43 fuelC p2 ((tn p1) - 1)).1 - (f_X8_judge_L56 k43 fuelC p2 ((tn p1) - 1)).1 / 10 * 10) = true then f_X8_judge_L43 village p1 p2 r43 (k43 + 1) ((f_X2_walk y_thought_43 village (((f_X8_judge_L56 k43 fuelC p2 ((tn p1) - 1)).1 / 10) - ((f_X8_judge_L56 k43 fuelC p2 ((tn p1) - 1)).1 / 10) / 10 * 10) ((f_X8_judge_L56 k43 fuelC p2 ((tn p1) - 1)).1 - (f_X8_judge_L56 k43 fuelC p2 ((tn p1) - 1)).1 / 10 * 10)).2) else (nI k43, y_thought_43))))
def f_X8_judge (thought : TN) (now : TN) (village : TVi) (p1 : Int32) (p2 : Int32) : Int32 × TN := (if p1 < 1 then ((-2), thought) else (if 4 < p1 then ((-2), thought) else (if p2 < 0 then ((-2), thought) else (if p2.toInt64 < f_X8_powerOf 100 (tn p1) then f_X8_judge_L43 village p1 p2 (tn p1) 0 (f_X2_copyFrom thought now) else ((-2), thought)))))
theorem jd_E {k : Nat} : ∀ (n : Nat) (t : Int32) (b : Nat), b ≤ k + n → f_X8_judge_L56_E k n t b = true := by
  intro n
  induction n with
  | zero => intro t b h; simp only [f_X8_judge_L56_E, if_pos (show b ≤ k by omega)]
  | succ n ih =>
    intro t b h
    by_cases c : b ≤ k
    · simp only [f_X8_judge_L56_E, if_pos c]
    · simp only [f_X8_judge_L56_E, if_neg c]
      exact ih _ _ (by omega)

set_option maxHeartbeats 4000000 in
set_option maxRecDepth 100000 in
theorem c_X8_judge (g : GT) (w0 : Wd) (A : Nat → Nat) (hA : ∀ i j, i < 60 → j < 60 → A i = A j → i = j) (vi : Nat) (who_keptSlots : Int32) (who_seed : Int64) (thought : TN) (now : TN) (village : TVi) (p1 : Int32) (p2 : Int32) (hvh : gVi_houses village ≤ 4) (hvp : gVi_people village ≤ 6) (h_who : w0 (A 0) = some (.inr (8, cWh A vi (who_keptSlots, who_seed)))) (h_thought : w0 (A 4) = some (.inr (2, cN thought))) (h_now : w0 (A 3) = some (.inr (2, cN now))) (h_village : w0 vi = some (.inr (7, cVi village))) : CT g yX8_judge cX8_judge 7 (some .int) 4 93 0 0 w0 [.ref (A 0), .int p1, .int p2] (fun r w2 => r = some (.int ((f_X8_judge thought now village p1 p2).1)) ∧ w2 (A 4) = some (.inr (2, cN ((f_X8_judge thought now village p1 p2).2))) ∧ wE (fun q => q = (A 4)) w0 w2) := by
  refine CT.of (own := RX8) (by decide +kernel) rfl (Nat.le_of_ble_eq_true rfl) (fun X hC hR hI => ?_)
  show V g X 7 w0 0 0 0 [(0, .ref (A 0)), (1, .int p1), (2, .int p2)] []
  have hE : wE (fun q => q = (A 4)) w0 w0 := wE.refl
  refine vv_iload_n hC 1 dX8_judge_0 rfl rfl ?_
  refine vv_iconst (v := 1) hC dX8_judge_1 (by decide) ?_
  refine vv_icmp_lt hC 27 dX8_judge_2 (by decide) (fun c1 => ?_) (fun c1 => ?_)
  · have c1 : p1 < 1 := c1
    refine vv_bipush (v := (-2)) hC dX8_judge_27 (by decide) ?_
    have hf : (f_X8_judge thought now village p1 p2) = ((-2), thought) := by first | (simp only [f_X8_judge, if_pos c1]; done) | rfl | (simp only [f_X8_judge, if_pos c1]; rfl)
    refine vv_iret hC hR rfl dX8_judge_29 (by omega) (by omega) ?_
    rw [hf]
    try dsimp only
    exact ⟨rfl, h_thought, hE⟩
  · have c1 : ¬ (p1 < 1) := c1
    refine vv_iload_n hC 1 dX8_judge_5 rfl rfl ?_
    refine vv_iconst (v := 4) hC dX8_judge_6 (by decide) ?_
    refine vv_icmp_gt hC 27 dX8_judge_7 (by decide) (fun c2 => ?_) (fun c2 => ?_)
    · have c2 : 4 < p1 := c2
      refine vv_bipush (v := (-2)) hC dX8_judge_27 (by decide) ?_
      have hf : (f_X8_judge thought now village p1 p2) = ((-2), thought) := by first | (simp only [f_X8_judge, if_neg c1, if_pos c2]; done) | rfl | (simp only [f_X8_judge, if_neg c1, if_pos c2]; rfl)
      refine vv_iret hC hR rfl dX8_judge_29 (by omega) (by omega) ?_
      rw [hf]
      try dsimp only
      exact ⟨rfl, h_thought, hE⟩
    · have c2 : ¬ (4 < p1) := c2
      refine vv_iload_n hC 2 dX8_judge_10 rfl rfl ?_
      refine vv_if_lt hC 27 dX8_judge_11 (by decide) (fun c3 => ?_) (fun c3 => ?_)
      · have c3 : p2 < 0 := c3
        refine vv_bipush (v := (-2)) hC dX8_judge_27 (by decide) ?_
        have hf : (f_X8_judge thought now village p1 p2) = ((-2), thought) := by first | (simp only [f_X8_judge, if_neg c1, if_neg c2, if_pos c3]; done) | rfl | (simp only [f_X8_judge, if_neg c1, if_neg c2, if_pos c3]; rfl)
        refine vv_iret hC hR rfl dX8_judge_29 (by omega) (by omega) ?_
        rw [hf]
        try dsimp only
        exact ⟨rfl, h_thought, hE⟩
      · have c3 : ¬ (p2 < 0) := c3
        have hpb := (c18_e (n := 4) c1 c2 (by decide)).2
        refine vv_iload_n hC 2 dX8_judge_14 rfl rfl ?_
        refine vv_i2l hC dX8_judge_15 ?_
        refine vv_ldc2 (v := (100)) hC lk_l_X8_198 dX8_judge_16 ?_
        refine vv_iload_n hC 1 dX8_judge_19 rfl rfl ?_
        refine vv_topi (nI (tn p1)) ((c18_e (n := 4) c1 c2 (by decide)).1) ?_
        refine vv_callS hC dX8_judge_20 md_X8_powerOf lk_m_X8_200 lk_t_X8_powerOf (As := [.long 100, .int (nI (tn p1))]) (rest := [.long p2.toInt64]) (c_X8_powerOf g w0 100 (tn p1) (by omega)) rfl rfl (Nat.le_of_ble_eq_true rfl) ⟨by decide, by decide, by decide, by decide⟩ (fun r w9 hq => ?_)
        obtain ⟨rfl, rfl⟩ := hq
        show V g X 7 w0 0 0 23 [(0, .ref (A 0)), (1, .int p1), (2, .int p2)] [.long (f_X8_powerOf 100 (tn p1)), .long p2.toInt64]
        refine vv_lcmp hC dX8_judge_23 ?_
        refine vv_if_lt hC 30 dX8_judge_24 (by decide) (fun c4 => ?_) (fun c4 => ?_)
        · have c4 : p2.toInt64 < f_X8_powerOf 100 (tn p1) := lc_lt c4
          refine vv_aload_n hC 0 dX8_judge_30 rfl rfl ?_
          refine vv_get (v := .ref (A 4)) hC fl_X8_30 dX8_judge_31 h_who rfl ?_
          refine vv_aload_n hC 0 dX8_judge_34 rfl rfl ?_
          refine vv_get (v := .ref (A 3)) hC fl_X8_26 dX8_judge_35 h_who rfl ?_
          refine vv_callV hC dX8_judge_38 md_X2_copyFrom lk_m_X8_204 lk_i_X2_copyFrom lk_s_X2_copyFrom h_thought rfl (As := [.ref (A 3)]) (rest := []) (c_X2_copyFrom g w0 (A 4) (A 3) thought now h_thought h_now (fw_inj hA (by decide) (by decide) (by decide))) rfl rfl (Nat.le_of_ble_eq_true rfl) ⟨by decide, by decide, by decide, by decide⟩ (fun r w9 hq => ?_)
          obtain ⟨rfl, t1, hs⟩ := hq
          obtain ⟨w5, rfl⟩ : ∃ z, z = w9 := ⟨_, rfl⟩
          have h_who := hs _ _ (fw_oo h_who h_thought (by decide)) h_who
          have h_now := hs _ _ (fw_inj hA (by decide) (by decide) (by decide)) h_now
          have h_village := hs _ _ (fw_oo h_village h_thought (by decide)) h_village
          have h_thought := t1
          have hE := hE.trans (hs.mono (fun _ z => z))
          show V g X 7 w5 0 0 41 [(0, .ref (A 0)), (1, .int p1), (2, .int p2)] []
          refine vv_iconst (v := 0) hC dX8_judge_41 (by decide) ?_
          refine vv_istore_n (lv2 := [(3, .int 0), (0, .ref (A 0)), (1, .int p1), (2, .int p2)]) hC dX8_judge_42 rfl (by decide) rfl ?_
          have hL14 : ∀ (r43 k43 : Nat) (y_thought_43 : TN) (w6 : Wd), k43 + r43 = tn p1 → (f_X8_judge thought now village p1 p2) = f_X8_judge_L43 village p1 p2 r43 k43 y_thought_43 → w6 (A 0) = some (.inr (8, cWh A vi (who_keptSlots, who_seed))) → w6 (A 4) = some (.inr (2, cN y_thought_43)) → w6 (A 3) = some (.inr (2, cN now)) → w6 vi = some (.inr (7, cVi village)) → wE (fun q => q = (A 4)) w0 w6 → V g X 7 w6 0 0 43 [(0, .ref (A 0)), (1, .int p1), (2, .int p2), (3, .int (nI k43))] [] := by
            intro r43
            induction r43 with
            | zero =>
              intro k43 y_thought_43 w6 hb ho h_who h_thought h_now h_village hE 
              refine vv_iload_n hC 3 dX8_judge_43 rfl rfl ?_
              refine vv_iload_n hC 1 dX8_judge_44 rfl rfl ?_
              refine vv_topi (nI (tn p1)) ((c18_e (n := 4) c1 c2 (by decide)).1) ?_
              refine vv_icmp_ge hC 155 dX8_judge_45 (by decide) (fun c => ?_) (fun c => False.elim (c ((nI_le_ (a := tn p1) (b := k43) (by omega) (by omega)).mpr (by omega))))
              refine vv_bipush (v := (-9)) hC dX8_judge_155 (by decide) ?_
              have hf : (f_X8_judge thought now village p1 p2) = ((-9), y_thought_43) := ho.trans (by first | (simp only [f_X8_judge_L43]; done) | rfl | (simp only [f_X8_judge_L43]; rfl))
              refine vv_iret hC hR rfl dX8_judge_157 (by omega) (by omega) ?_
              rw [hf]
              try dsimp only
              exact ⟨rfl, h_thought, hE⟩
            | succ r43 ih =>
              intro k43 y_thought_43 w6 hb ho h_who h_thought h_now h_village hE 
              refine vv_iload_n hC 3 dX8_judge_43 rfl rfl ?_
              refine vv_iload_n hC 1 dX8_judge_44 rfl rfl ?_
              refine vv_topi (nI (tn p1)) ((c18_e (n := 4) c1 c2 (by decide)).1) ?_
              refine vv_icmp_ge hC 155 dX8_judge_45 (by decide) (fun c => absurd ((nI_le_ (a := tn p1) (b := k43) (by omega) (by omega)).mp c) (by first | omega | decide)) (fun c => ?_)
              refine vv_iload_n hC 2 dX8_judge_48 rfl rfl ?_
              refine vv_istore (lv2 := [(4, .int p2), (0, .ref (A 0)), (1, .int p1), (2, .int p2), (3, .int (nI k43))]) hC dX8_judge_49 (by decide) rfl ?_
              refine vv_iload_n hC 2 dX8_judge_51 rfl rfl ?_
              refine vv_topi (nI (tn p1)) ((c18_e (n := 4) c1 c2 (by decide)).1) ?_
              refine vv_iconst (v := 1) hC dX8_judge_52 (by decide) ?_
              refine vv_isub hC dX8_judge_53 ?_
              refine vv_topi (nI ((tn p1) - 1)) (pk_sub (a := tn p1) (b := 1) (by omega)) ?_
              refine vv_istore (lv2 := [(5, .int (nI ((tn p1) - 1))), (4, .int p2), (0, .ref (A 0)), (1, .int p1), (2, .int p2), (3, .int (nI k43))]) hC dX8_judge_54 (by decide) rfl ?_
              have hL9 : ∀ (r56 : Nat) (l4_56 : Int32) (l5_56 : Nat) (out : Int32 × Nat), l5_56 ≤ 4 → f_X8_judge_L56_E k43 r56 l4_56 l5_56 = true → out = f_X8_judge_L56 k43 r56 l4_56 l5_56 → V g X 7 w6 0 0 75 [(0, .ref (A 0)), (1, .int p1), (2, .int p2), (3, .int (nI k43)), (4, .int out.1), (5, .int (nI out.2))] [] → V g X 7 w6 0 0 56 [(0, .ref (A 0)), (1, .int p1), (2, .int p2), (3, .int (nI k43)), (4, .int l4_56), (5, .int (nI l5_56))] [] := by
                intro r56
                induction r56 with
                | zero =>
                  intro l4_56 l5_56 out h5 he ho hk
                  refine vv_iload hC 5 dX8_judge_56 rfl ?_
                  refine vv_iload_n hC 3 dX8_judge_58 rfl rfl ?_
                  refine vv_icmp_le hC 75 dX8_judge_59 (by decide) (fun c7 => ?_) (fun c7 => ?_)
                  · have c7 : l5_56 ≤ k43 := (nI_le_ (a := l5_56) (b := k43) (by omega) (by omega)).mp c7
                    have ho := ho.trans (by first | (simp only [f_X8_judge_L56, if_pos c7]; done) | rfl | (simp only [f_X8_judge_L56, if_pos c7]; rfl) : _ = (l4_56, l5_56))
                    subst ho
                    exact hk
                  · have c7 : ¬ (l5_56 ≤ k43) := fun z => c7 ((nI_le_ (a := l5_56) (b := k43) (by omega) (by omega)).mpr z)
                    refine vv_iload hC 4 dX8_judge_62 rfl ?_
                    refine vv_bipush (v := (100)) hC dX8_judge_64 (by decide) ?_
                    refine vv_idiv hC dX8_judge_66 (by decide) ?_
                    refine vv_istore (lv2 := [(4, .int (l4_56 / 100)), (0, .ref (A 0)), (1, .int p1), (2, .int p2), (3, .int (nI k43)), (5, .int (nI l5_56))]) hC dX8_judge_67 (by decide) rfl ?_
                    refine vv_iinc (lv2 := [(5, .int (nI (l5_56 - 1))), (4, .int (l4_56 / 100)), (0, .ref (A 0)), (1, .int p1), (2, .int p2), (3, .int (nI k43))]) hC 5 dX8_judge_69 rfl (i32_dec (by omega)) (by decide) rfl ?_
                    refine vv_goto hC 56 dX8_judge_72 (by decide) ?_
                    refine vv_lv [2, 3, 4, 5, 1, 0] rfl ?_
                    exact absurd (he.symm.trans (by simp only [f_X8_judge_L56_E, if_neg c7] : f_X8_judge_L56_E k43 0 l4_56 l5_56 = false)) (by decide)
                | succ r56 ih =>
                  intro l4_56 l5_56 out h5 he ho hk
                  refine vv_iload hC 5 dX8_judge_56 rfl ?_
                  refine vv_iload_n hC 3 dX8_judge_58 rfl rfl ?_
                  refine vv_icmp_le hC 75 dX8_judge_59 (by decide) (fun c8 => ?_) (fun c8 => ?_)
                  · have c8 : l5_56 ≤ k43 := (nI_le_ (a := l5_56) (b := k43) (by omega) (by omega)).mp c8
                    have ho := ho.trans (by first | (simp only [f_X8_judge_L56, if_pos c8]; done) | rfl | (simp only [f_X8_judge_L56, if_pos c8]; rfl) : _ = (l4_56, l5_56))
                    subst ho
                    exact hk
                  · have c8 : ¬ (l5_56 ≤ k43) := fun z => c8 ((nI_le_ (a := l5_56) (b := k43) (by omega) (by omega)).mpr z)
                    refine vv_iload hC 4 dX8_judge_62 rfl ?_
                    refine vv_bipush (v := (100)) hC dX8_judge_64 (by decide) ?_
                    refine vv_idiv hC dX8_judge_66 (by decide) ?_
                    refine vv_istore (lv2 := [(4, .int (l4_56 / 100)), (0, .ref (A 0)), (1, .int p1), (2, .int p2), (3, .int (nI k43)), (5, .int (nI l5_56))]) hC dX8_judge_67 (by decide) rfl ?_
                    refine vv_iinc (lv2 := [(5, .int (nI (l5_56 - 1))), (4, .int (l4_56 / 100)), (0, .ref (A 0)), (1, .int p1), (2, .int p2), (3, .int (nI k43))]) hC 5 dX8_judge_69 rfl (i32_dec (by omega)) (by decide) rfl ?_
                    refine vv_goto hC 56 dX8_judge_72 (by decide) ?_
                    refine vv_lv [2, 3, 4, 5, 1, 0] rfl ?_
                    exact ih (l4_56 / 100) (l5_56 - 1) out (by omega) (Eq.trans (Eq.symm (by first | (simp only [f_X8_judge_L56_E, if_neg c8]; done) | rfl : f_X8_judge_L56_E k43 (r56 + 1) l4_56 l5_56 = f_X8_judge_L56_E k43 r56 (l4_56 / 100) (l5_56 - 1))) he) (ho.trans (by first | (simp only [f_X8_judge_L56, if_neg c8]; done) | rfl | (simp only [f_X8_judge_L56, if_neg c8]; rfl))) hk
              refine vv_lv [2, 3, 4, 5, 1, 0] rfl ?_
              refine hL9 fuelC p2 ((tn p1) - 1) (f_X8_judge_L56 k43 fuelC p2 ((tn p1) - 1)) (by omega) (jd_E _ _ _ (by show _ ≤ _ + 8; omega)) rfl ?_
              refine vv_iload hC 4 dX8_judge_75 rfl ?_
              refine vv_bipush (v := (10)) hC dX8_judge_77 (by decide) ?_
              refine vv_idiv hC dX8_judge_79 (by decide) ?_
              refine vv_bipush (v := (10)) hC dX8_judge_80 (by decide) ?_
              refine vv_irem hC dX8_judge_82 (by decide) ?_
              refine vv_istore (lv2 := [(5, .int (((f_X8_judge_L56 k43 fuelC p2 ((tn p1) - 1)).1 / 10) - ((f_X8_judge_L56 k43 fuelC p2 ((tn p1) - 1)).1 / 10) / 10 * 10)), (0, .ref (A 0)), (1, .int p1), (2, .int p2), (3, .int (nI k43)), (4, .int ((f_X8_judge_L56 k43 fuelC p2 ((tn p1) - 1)).1))]) hC dX8_judge_83 (by decide) rfl ?_
              refine vv_iload hC 5 dX8_judge_85 rfl ?_
              refine vv_bipush (v := (10)) hC dX8_judge_87 (by decide) ?_
              refine vv_irem hC dX8_judge_89 (by decide) ?_
              refine vv_istore (lv2 := [(6, .int ((f_X8_judge_L56 k43 fuelC p2 ((tn p1) - 1)).1 - (f_X8_judge_L56 k43 fuelC p2 ((tn p1) - 1)).1 / 10 * 10)), (5, .int (((f_X8_judge_L56 k43 fuelC p2 ((tn p1) - 1)).1 / 10) - ((f_X8_judge_L56 k43 fuelC p2 ((tn p1) - 1)).1 / 10) / 10 * 10)), (0, .ref (A 0)), (1, .int p1), (2, .int p2), (3, .int (nI k43)), (4, .int ((f_X8_judge_L56 k43 fuelC p2 ((tn p1) - 1)).1))]) hC dX8_judge_90 (by decide) rfl ?_
              refine vv_aload_n hC 2 dX8_judge_92 rfl rfl ?_
              refine vv_iload hC 1 dX8_judge_93 rfl ?_
              refine vv_callV hC dX8_judge_95 md_X8_noPerson lk_m_X8_134 lk_i_X8_noPerson lk_s_X8_noPerson h_who rfl (As := [.int (((f_X8_judge_L56 k43 fuelC p2 ((tn p1) - 1)).1 / 10) - ((f_X8_judge_L56 k43 fuelC p2 ((tn p1) - 1)).1 / 10) / 10 * 10)]) (rest := []) (c_X8_noPerson g w6 A hA vi who_keptSlots who_seed village (((f_X8_judge_L56 k43 fuelC p2 ((tn p1) - 1)).1 / 10) - ((f_X8_judge_L56 k43 fuelC p2 ((tn p1) - 1)).1 / 10) / 10 * 10) h_who h_village) rfl rfl (Nat.le_of_ble_eq_true rfl) ⟨by decide, by decide, by decide, by decide⟩ (fun r w9 hq => ?_)
              obtain ⟨rfl, rfl⟩ := hq
              show V g X 7 w6 0 0 98 [(6, .int ((f_X8_judge_L56 k43 fuelC p2 ((tn p1) - 1)).1 - (f_X8_judge_L56 k43 fuelC p2 ((tn p1) - 1)).1 / 10 * 10)), (5, .int (((f_X8_judge_L56 k43 fuelC p2 ((tn p1) - 1)).1 / 10) - ((f_X8_judge_L56 k43 fuelC p2 ((tn p1) - 1)).1 / 10) / 10 * 10)), (0, .ref (A 0)), (1, .int p1), (2, .int p2), (3, .int (nI k43)), (4, .int ((f_X8_judge_L56 k43 fuelC p2 ((tn p1) - 1)).1))] [.int (bI (f_X8_noPerson village (((f_X8_judge_L56 k43 fuelC p2 ((tn p1) - 1)).1 / 10) - ((f_X8_judge_L56 k43 fuelC p2 ((tn p1) - 1)).1 / 10) / 10 * 10)))]
              refine vv_if_ne hC 131 dX8_judge_98 (by decide) (fun c10 => ?_) (fun c10 => ?_)
              · have c10 : f_X8_noPerson village (((f_X8_judge_L56 k43 fuelC p2 ((tn p1) - 1)).1 / 10) - ((f_X8_judge_L56 k43 fuelC p2 ((tn p1) - 1)).1 / 10) / 10 * 10) = true := bI_t c10
                refine vv_iload_n hC 5 dX8_judge_131 rfl rfl ?_
                have hf : (f_X8_judge thought now village p1 p2) = (nI k43, y_thought_43) := ho.trans (by first | (simp only [f_X8_judge_L43, if_pos c10]; done) | rfl | (simp only [f_X8_judge_L43, if_pos c10]; rfl))
                refine vv_iret hC hR rfl dX8_judge_132 (by omega) (by omega) ?_
                rw [hf]
                try dsimp only
                exact ⟨rfl, h_thought, hE⟩
              · have c10 : ¬ (f_X8_noPerson village (((f_X8_judge_L56 k43 fuelC p2 ((tn p1) - 1)).1 / 10) - ((f_X8_judge_L56 k43 fuelC p2 ((tn p1) - 1)).1 / 10) / 10 * 10) = true) := bI_f c10
                refine vv_aload_n hC 2 dX8_judge_101 rfl rfl ?_
                refine vv_iload hC 0 dX8_judge_102 rfl ?_
                refine vv_callV hC dX8_judge_104 md_X8_noHouse lk_m_X8_107 lk_i_X8_noHouse lk_s_X8_noHouse h_who rfl (As := [.int ((f_X8_judge_L56 k43 fuelC p2 ((tn p1) - 1)).1 - (f_X8_judge_L56 k43 fuelC p2 ((tn p1) - 1)).1 / 10 * 10)]) (rest := []) (c_X8_noHouse g w6 A hA vi who_keptSlots who_seed village ((f_X8_judge_L56 k43 fuelC p2 ((tn p1) - 1)).1 - (f_X8_judge_L56 k43 fuelC p2 ((tn p1) - 1)).1 / 10 * 10) h_who h_village) rfl rfl (Nat.le_of_ble_eq_true rfl) ⟨by decide, by decide, by decide, by decide⟩ (fun r w9 hq => ?_)
                obtain ⟨rfl, rfl⟩ := hq
                show V g X 7 w6 0 0 107 [(6, .int ((f_X8_judge_L56 k43 fuelC p2 ((tn p1) - 1)).1 - (f_X8_judge_L56 k43 fuelC p2 ((tn p1) - 1)).1 / 10 * 10)), (5, .int (((f_X8_judge_L56 k43 fuelC p2 ((tn p1) - 1)).1 / 10) - ((f_X8_judge_L56 k43 fuelC p2 ((tn p1) - 1)).1 / 10) / 10 * 10)), (0, .ref (A 0)), (1, .int p1), (2, .int p2), (3, .int (nI k43)), (4, .int ((f_X8_judge_L56 k43 fuelC p2 ((tn p1) - 1)).1))] [.int (bI (f_X8_noHouse village ((f_X8_judge_L56 k43 fuelC p2 ((tn p1) - 1)).1 - (f_X8_judge_L56 k43 fuelC p2 ((tn p1) - 1)).1 / 10 * 10)))]
                refine vv_if_ne hC 131 dX8_judge_107 (by decide) (fun c11 => ?_) (fun c11 => ?_)
                · have c11 : f_X8_noHouse village ((f_X8_judge_L56 k43 fuelC p2 ((tn p1) - 1)).1 - (f_X8_judge_L56 k43 fuelC p2 ((tn p1) - 1)).1 / 10 * 10) = true := bI_t c11
                  refine vv_iload_n hC 5 dX8_judge_131 rfl rfl ?_
                  have hf : (f_X8_judge thought now village p1 p2) = (nI k43, y_thought_43) := ho.trans (by first | (simp only [f_X8_judge_L43, if_neg c10, if_pos c11]; done) | rfl | (simp only [f_X8_judge_L43, if_neg c10, if_pos c11]; rfl))
                  refine vv_iret hC hR rfl dX8_judge_132 (by omega) (by omega) ?_
                  rw [hf]
                  try dsimp only
                  exact ⟨rfl, h_thought, hE⟩
                · have c11 : ¬ (f_X8_noHouse village ((f_X8_judge_L56 k43 fuelC p2 ((tn p1) - 1)).1 - (f_X8_judge_L56 k43 fuelC p2 ((tn p1) - 1)).1 / 10 * 10) = true) := bI_f c11
                  refine vv_aload_n hC 2 dX8_judge_110 rfl rfl ?_
                  refine vv_get (v := .ref (A 4)) hC fl_X8_30 dX8_judge_111 h_who rfl ?_
                  refine vv_aload_n hC 2 dX8_judge_114 rfl rfl ?_
                  refine vv_get (v := .ref vi) hC fl_X8_19 dX8_judge_115 h_who rfl ?_
                  refine vv_iload hC 1 dX8_judge_118 rfl ?_
                  refine vv_callV hC dX8_judge_120 md_X2_goals lk_m_X8_162 lk_i_X2_goals lk_s_X2_goals h_thought rfl (As := [.ref vi, .int (((f_X8_judge_L56 k43 fuelC p2 ((tn p1) - 1)).1 / 10) - ((f_X8_judge_L56 k43 fuelC p2 ((tn p1) - 1)).1 / 10) / 10 * 10)]) (rest := []) (c_X2_goals g w6 (A 4) vi y_thought_43 village (((f_X8_judge_L56 k43 fuelC p2 ((tn p1) - 1)).1 / 10) - ((f_X8_judge_L56 k43 fuelC p2 ((tn p1) - 1)).1 / 10) / 10 * 10) h_thought h_village) rfl rfl (Nat.le_of_ble_eq_true rfl) ⟨by decide, by decide, by decide, by decide⟩ (fun r w9 hq => ?_)
                  obtain ⟨rfl, rfl⟩ := hq
                  show V g X 7 w6 0 0 123 [(6, .int ((f_X8_judge_L56 k43 fuelC p2 ((tn p1) - 1)).1 - (f_X8_judge_L56 k43 fuelC p2 ((tn p1) - 1)).1 / 10 * 10)), (5, .int (((f_X8_judge_L56 k43 fuelC p2 ((tn p1) - 1)).1 / 10) - ((f_X8_judge_L56 k43 fuelC p2 ((tn p1) - 1)).1 / 10) / 10 * 10)), (0, .ref (A 0)), (1, .int p1), (2, .int p2), (3, .int (nI k43)), (4, .int ((f_X8_judge_L56 k43 fuelC p2 ((tn p1) - 1)).1))] [.int (f_X2_goals y_thought_43 village (((f_X8_judge_L56 k43 fuelC p2 ((tn p1) - 1)).1 / 10) - ((f_X8_judge_L56 k43 fuelC p2 ((tn p1) - 1)).1 / 10) / 10 * 10))]
                  refine vv_iload hC 0 dX8_judge_123 rfl ?_
                  refine vv_callS hC dX8_judge_125 md_X8_has lk_m_X8_166 lk_t_X8_has (As := [.int (f_X2_goals y_thought_43 village (((f_X8_judge_L56 k43 fuelC p2 ((tn p1) - 1)).1 / 10) - ((f_X8_judge_L56 k43 fuelC p2 ((tn p1) - 1)).1 / 10) / 10 * 10)), .int ((f_X8_judge_L56 k43 fuelC p2 ((tn p1) - 1)).1 - (f_X8_judge_L56 k43 fuelC p2 ((tn p1) - 1)).1 / 10 * 10)]) (rest := []) (c_X8_has g w6 (f_X2_goals y_thought_43 village (((f_X8_judge_L56 k43 fuelC p2 ((tn p1) - 1)).1 / 10) - ((f_X8_judge_L56 k43 fuelC p2 ((tn p1) - 1)).1 / 10) / 10 * 10)) ((f_X8_judge_L56 k43 fuelC p2 ((tn p1) - 1)).1 - (f_X8_judge_L56 k43 fuelC p2 ((tn p1) - 1)).1 / 10 * 10)) rfl rfl (Nat.le_of_ble_eq_true rfl) ⟨by decide, by decide, by decide, by decide⟩ (fun r w9 hq => ?_)
                  obtain ⟨rfl, rfl⟩ := hq
                  show V g X 7 w6 0 0 128 [(6, .int ((f_X8_judge_L56 k43 fuelC p2 ((tn p1) - 1)).1 - (f_X8_judge_L56 k43 fuelC p2 ((tn p1) - 1)).1 / 10 * 10)), (5, .int (((f_X8_judge_L56 k43 fuelC p2 ((tn p1) - 1)).1 / 10) - ((f_X8_judge_L56 k43 fuelC p2 ((tn p1) - 1)).1 / 10) / 10 * 10)), (0, .ref (A 0)), (1, .int p1), (2, .int p2), (3, .int (nI k43)), (4, .int ((f_X8_judge_L56 k43 fuelC p2 ((tn p1) - 1)).1))] [.int (bI (f_X8_has (f_X2_goals y_thought_43 village (((f_X8_judge_L56 k43 fuelC p2 ((tn p1) - 1)).1 / 10) - ((f_X8_judge_L56 k43 fuelC p2 ((tn p1) - 1)).1 / 10) / 10 * 10)) ((f_X8_judge_L56 k43 fuelC p2 ((tn p1) - 1)).1 - (f_X8_judge_L56 k43 fuelC p2 ((tn p1) - 1)).1 / 10 * 10)))]
                  refine vv_if_ne hC 133 dX8_judge_128 (by decide) (fun c12 => ?_) (fun c12 => ?_)
                  · have c12 : f_X8_has (f_X2_goals y_thought_43 village (((f_X8_judge_L56 k43 fuelC p2 ((tn p1) - 1)).1 / 10) - ((f_X8_judge_L56 k43 fuelC p2 ((tn p1) - 1)).1 / 10) / 10 * 10)) ((f_X8_judge_L56 k43 fuelC p2 ((tn p1) - 1)).1 - (f_X8_judge_L56 k43 fuelC p2 ((tn p1) - 1)).1 / 10 * 10) = true := bI_t c12
                    refine vv_aload_n hC 2 dX8_judge_133 rfl rfl ?_
                    refine vv_get (v := .ref (A 4)) hC fl_X8_30 dX8_judge_134 h_who rfl ?_
                    refine vv_aload_n hC 2 dX8_judge_137 rfl rfl ?_
                    refine vv_get (v := .ref vi) hC fl_X8_19 dX8_judge_138 h_who rfl ?_
                    refine vv_iload hC 1 dX8_judge_141 rfl ?_
                    refine vv_iload hC 0 dX8_judge_143 rfl ?_
                    refine vv_callV hC dX8_judge_145 md_X2_walk lk_m_X8_178 lk_i_X2_walk lk_s_X2_walk h_thought rfl (As := [.ref vi, .int (((f_X8_judge_L56 k43 fuelC p2 ((tn p1) - 1)).1 / 10) - ((f_X8_judge_L56 k43 fuelC p2 ((tn p1) - 1)).1 / 10) / 10 * 10), .int ((f_X8_judge_L56 k43 fuelC p2 ((tn p1) - 1)).1 - (f_X8_judge_L56 k43 fuelC p2 ((tn p1) - 1)).1 / 10 * 10)]) (rest := []) (c_X2_walk g w6 (A 4) vi y_thought_43 village (((f_X8_judge_L56 k43 fuelC p2 ((tn p1) - 1)).1 / 10) - ((f_X8_judge_L56 k43 fuelC p2 ((tn p1) - 1)).1 / 10) / 10 * 10) ((f_X8_judge_L56 k43 fuelC p2 ((tn p1) - 1)).1 - (f_X8_judge_L56 k43 fuelC p2 ((tn p1) - 1)).1 / 10 * 10) (by omega) (by omega) h_thought h_village) rfl rfl (Nat.le_of_ble_eq_true rfl) ⟨by decide, by decide, by decide, by decide⟩ (fun r w9 hq => ?_)
                    obtain ⟨rfl, t1, hs⟩ := hq
                    obtain ⟨w13, rfl⟩ : ∃ z, z = w9 := ⟨_, rfl⟩
                    have h_who := hs _ _ (fw_oo h_who h_thought (by decide)) h_who
                    have h_now := hs _ _ (fw_inj hA (by decide) (by decide) (by decide)) h_now
                    have h_village := hs _ _ (fw_oo h_village h_thought (by decide)) h_village
                    have h_thought := t1
                    have hE := hE.trans (hs.mono (fun _ z => z))
                    show V g X 7 w13 0 0 148 [(6, .int ((f_X8_judge_L56 k43 fuelC p2 ((tn p1) - 1)).1 - (f_X8_judge_L56 k43 fuelC p2 ((tn p1) - 1)).1 / 10 * 10)), (5, .int (((f_X8_judge_L56 k43 fuelC p2 ((tn p1) - 1)).1 / 10) - ((f_X8_judge_L56 k43 fuelC p2 ((tn p1) - 1)).1 / 10) / 10 * 10)), (0, .ref (A 0)), (1, .int p1), (2, .int p2), (3, .int (nI k43)), (4, .int ((f_X8_judge_L56 k43 fuelC p2 ((tn p1) - 1)).1))] [.int ((f_X2_walk y_thought_43 village (((f_X8_judge_L56 k43 fuelC p2 ((tn p1) - 1)).1 / 10) - ((f_X8_judge_L56 k43 fuelC p2 ((tn p1) - 1)).1 / 10) / 10 * 10) ((f_X8_judge_L56 k43 fuelC p2 ((tn p1) - 1)).1 - (f_X8_judge_L56 k43 fuelC p2 ((tn p1) - 1)).1 / 10 * 10)).1)]
                    refine vv_pop hC dX8_judge_148 rfl ?_
                    refine vv_iinc (lv2 := [(3, .int (nI (k43 + 1))), (6, .int ((f_X8_judge_L56 k43 fuelC p2 ((tn p1) - 1)).1 - (f_X8_judge_L56 k43 fuelC p2 ((tn p1) - 1)).1 / 10 * 10)), (5, .int (((f_X8_judge_L56 k43 fuelC p2 ((tn p1) - 1)).1 / 10) - ((f_X8_judge_L56 k43 fuelC p2 ((tn p1) - 1)).1 / 10) / 10 * 10)), (0, .ref (A 0)), (1, .int p1), (2, .int p2), (4, .int ((f_X8_judge_L56 k43 fuelC p2 ((tn p1) - 1)).1))]) hC 5 dX8_judge_149 rfl (nI_add k43 1) (by decide) rfl ?_
                    refine vv_goto hC 43 dX8_judge_152 (by decide) ?_
                    refine vv_lv [3, 4, 5, 0] rfl ?_
                    exact ih (k43 + 1) ((f_X2_walk y_thought_43 village (((f_X8_judge_L56 k43 fuelC p2 ((tn p1) - 1)).1 / 10) - ((f_X8_judge_L56 k43 fuelC p2 ((tn p1) - 1)).1 / 10) / 10 * 10) ((f_X8_judge_L56 k43 fuelC p2 ((tn p1) - 1)).1 - (f_X8_judge_L56 k43 fuelC p2 ((tn p1) - 1)).1 / 10 * 10)).2) w13 (by omega) (ho.trans (by first | (simp only [f_X8_judge_L43, if_neg c10, if_neg c11, if_pos c12]; done) | rfl | (simp only [f_X8_judge_L43, if_neg c10, if_neg c11, if_pos c12]; rfl))) h_who h_thought h_now h_village hE
                  · have c12 : ¬ (f_X8_has (f_X2_goals y_thought_43 village (((f_X8_judge_L56 k43 fuelC p2 ((tn p1) - 1)).1 / 10) - ((f_X8_judge_L56 k43 fuelC p2 ((tn p1) - 1)).1 / 10) / 10 * 10)) ((f_X8_judge_L56 k43 fuelC p2 ((tn p1) - 1)).1 - (f_X8_judge_L56 k43 fuelC p2 ((tn p1) - 1)).1 / 10 * 10) = true) := bI_f c12
                    refine vv_iload_n hC 5 dX8_judge_131 rfl rfl ?_
                    have hf : (f_X8_judge thought now village p1 p2) = (nI k43, y_thought_43) := ho.trans (by first | (simp only [f_X8_judge_L43, if_neg c10, if_neg c11, if_neg c12]; done) | rfl | (simp only [f_X8_judge_L43, if_neg c10, if_neg c11, if_neg c12]; rfl))
                    refine vv_iret hC hR rfl dX8_judge_132 (by omega) (by omega) ?_
                    rw [hf]
                    try dsimp only
                    exact ⟨rfl, h_thought, hE⟩
          refine vv_lv [1, 2, 3, 0] rfl ?_
          exact hL14 (tn p1) 0 (f_X2_copyFrom thought now) w5 (by omega) (by first | (simp only [f_X8_judge, if_neg c1, if_neg c2, if_neg c3, if_pos c4]; done) | rfl | (simp only [f_X8_judge, if_neg c1, if_neg c2, if_neg c3, if_pos c4]; rfl)) h_who h_thought h_now h_village hE
        · have c4 : ¬ (p2.toInt64 < f_X8_powerOf 100 (tn p1)) := lc_nlt c4
          refine vv_bipush (v := (-2)) hC dX8_judge_27 (by decide) ?_
          have hf : (f_X8_judge thought now village p1 p2) = ((-2), thought) := by first | (simp only [f_X8_judge, if_neg c1, if_neg c2, if_neg c3, if_neg c4]; done) | rfl | (simp only [f_X8_judge, if_neg c1, if_neg c2, if_neg c3, if_neg c4]; rfl)
          refine vv_iret hC hR rfl dX8_judge_29 (by omega) (by omega) ?_
          rw [hf]
          try dsimp only
          exact ⟨rfl, h_thought, hE⟩
def f_X8_years_L34 (village : TVi) : Nat → Nat → Int64 → TN → Int64 × TN
  | 0, k34, y_who_seed_34, y_thought_34 => (y_who_seed_34, y_thought_34)
  | r34 + 1, k34, y_who_seed_34, y_thought_34 => f_X8_years_L34 village r34 (k34 + 1) ((f_X8_walkBySeed y_who_seed_34 y_thought_34 village (nI k34)).1) ((f_X8_walkBySeed y_who_seed_34 y_thought_34 village (nI k34)).2)
def f_X8_years_L27 (village : TVi) : Nat → Nat → Int64 → TN → Int64 × TN
  | 0, k27, y_who_seed_27, y_thought_27 => (y_who_seed_27, y_thought_27)
  | r27 + 1, k27, y_who_seed_27, y_thought_27 => f_X8_years_L27 village r27 (k27 + 1) ((f_X8_years_L34 village (gVi_people village) 0 y_who_seed_27 y_thought_27).1) ((f_X2_nextNight ((f_X8_years_L34 village (gVi_people village) 0 y_who_seed_27 y_thought_27).2)).2)
def f_X8_years (who_seed : Int64) (thought : TN) (now : TN) (village : TVi) (p1 : Int32) : Int32 × Int64 × TN := (if p1 < 1 then ((-2), who_seed, thought) else (if p1 ≤ 30 then ((gN_wolves ((f_X8_years_L27 village (tn p1) 0 who_seed (f_X2_copyFrom thought now)).2) &&& f_X2_there ((f_X8_years_L27 village (tn p1) 0 who_seed (f_X2_copyFrom thought now)).2) village), (f_X8_years_L27 village (tn p1) 0 who_seed (f_X2_copyFrom thought now)).1, (f_X8_years_L27 village (tn p1) 0 who_seed (f_X2_copyFrom thought now)).2) else ((-2), who_seed, thought)))
set_option maxHeartbeats 4000000 in
set_option maxRecDepth 100000 in
theorem c_X8_years (g : GT) (w0 : Wd) (A : Nat → Nat) (hA : ∀ i j, i < 60 → j < 60 → A i = A j → i = j) (vi : Nat) (who_keptSlots : Int32) (who_seed : Int64) (thought : TN) (now : TN) (village : TVi) (p1 : Int32) (hvh : gVi_houses village ≤ 4) (hvp : gVi_people village ≤ 6) (h_who : w0 (A 0) = some (.inr (8, cWh A vi (who_keptSlots, who_seed)))) (h_thought : w0 (A 4) = some (.inr (2, cN thought))) (h_now : w0 (A 3) = some (.inr (2, cN now))) (h_village : w0 vi = some (.inr (7, cVi village))) : CT g yX8_years cX8_years 4 (some .int) 5 116 0 0 w0 [.ref (A 0), .int p1] (fun r w2 => r = some (.int ((f_X8_years who_seed thought now village p1).1)) ∧ w2 (A 0) = some (.inr (8, cWh A vi (who_keptSlots, (f_X8_years who_seed thought now village p1).2.1))) ∧ w2 (A 4) = some (.inr (2, cN ((f_X8_years who_seed thought now village p1).2.2))) ∧ wE (fun q => q = (A 0) ∨ q = (A 4)) w0 w2) := by
  refine CT.of (own := RX8) (by decide +kernel) rfl (Nat.le_of_ble_eq_true rfl) (fun X hC hR hI => ?_)
  show V g X 4 w0 0 0 0 [(0, .ref (A 0)), (1, .int p1)] []
  have hE : wE (fun q => q = (A 0) ∨ q = (A 4)) w0 w0 := wE.refl
  refine vv_iload_n hC 1 dX8_years_0 rfl rfl ?_
  refine vv_iconst (v := 1) hC dX8_years_1 (by decide) ?_
  refine vv_icmp_lt hC 11 dX8_years_2 (by decide) (fun c1 => ?_) (fun c1 => ?_)
  · have c1 : p1 < 1 := c1
    refine vv_bipush (v := (-2)) hC dX8_years_11 (by decide) ?_
    have hf : (f_X8_years who_seed thought now village p1) = ((-2), who_seed, thought) := by first | (simp only [f_X8_years, if_pos c1]; done) | rfl | (simp only [f_X8_years, if_pos c1]; rfl)
    refine vv_iret hC hR rfl dX8_years_13 (by omega) (by omega) ?_
    rw [hf]
    try dsimp only
    exact ⟨rfl, h_who, h_thought, hE⟩
  · have c1 : ¬ (p1 < 1) := c1
    refine vv_iload_n hC 1 dX8_years_5 rfl rfl ?_
    refine vv_bipush (v := (30)) hC dX8_years_6 (by decide) ?_
    refine vv_icmp_le hC 14 dX8_years_8 (by decide) (fun c2 => ?_) (fun c2 => ?_)
    · have c2 : p1 ≤ 30 := c2
      have hpb := (c18_e (n := 30) c1 (Int32.not_lt.mpr c2) (by decide)).2
      refine vv_aload_n hC 0 dX8_years_14 rfl rfl ?_
      refine vv_get (v := .ref (A 4)) hC fl_X8_30 dX8_years_15 h_who rfl ?_
      refine vv_aload_n hC 0 dX8_years_18 rfl rfl ?_
      refine vv_get (v := .ref (A 3)) hC fl_X8_26 dX8_years_19 h_who rfl ?_
      refine vv_callV hC dX8_years_22 md_X2_copyFrom lk_m_X8_204 lk_i_X2_copyFrom lk_s_X2_copyFrom h_thought rfl (As := [.ref (A 3)]) (rest := []) (c_X2_copyFrom g w0 (A 4) (A 3) thought now h_thought h_now (fw_inj hA (by decide) (by decide) (by decide))) rfl rfl (Nat.le_of_ble_eq_true rfl) ⟨by decide, by decide, by decide, by decide⟩ (fun r w9 hq => ?_)
      obtain ⟨rfl, t1, hs⟩ := hq
      obtain ⟨w3, rfl⟩ : ∃ z, z = w9 := ⟨_, rfl⟩
      have h_who := hs _ _ (fw_oo h_who h_thought (by decide)) h_who
      have h_now := hs _ _ (fw_inj hA (by decide) (by decide) (by decide)) h_now
      have h_village := hs _ _ (fw_oo h_village h_thought (by decide)) h_village
      have h_thought := t1
      have hE := hE.trans (hs.mono (fun _ z => (Or.inr z)))
      show V g X 4 w3 0 0 25 [(0, .ref (A 0)), (1, .int p1)] []
      refine vv_iconst (v := 0) hC dX8_years_25 (by decide) ?_
      refine vv_istore_n (lv2 := [(2, .int 0), (0, .ref (A 0)), (1, .int p1)]) hC dX8_years_26 rfl (by decide) rfl ?_
      have hL11 : ∀ (r27 k27 : Nat) (y_who_seed_27 : Int64) (y_thought_27 : TN) (w4 : Wd) (out : Int64 × TN), k27 + r27 = tn p1 → out = f_X8_years_L27 village r27 k27 y_who_seed_27 y_thought_27 → w4 (A 0) = some (.inr (8, cWh A vi (who_keptSlots, y_who_seed_27))) → w4 (A 4) = some (.inr (2, cN y_thought_27)) → w4 (A 3) = some (.inr (2, cN now)) → w4 vi = some (.inr (7, cVi village)) → wE (fun q => q = (A 0) ∨ q = (A 4)) w0 w4 → (∀ w10 : Wd, w10 (A 0) = some (.inr (8, cWh A vi (who_keptSlots, out.1))) → w10 (A 4) = some (.inr (2, cN out.2)) → w10 (A 3) = some (.inr (2, cN now)) → w10 vi = some (.inr (7, cVi village)) → wE (fun q => q = (A 0) ∨ q = (A 4)) w0 w10 → V g X 4 w10 0 0 70 [(0, .ref (A 0)), (1, .int p1)] []) → V g X 4 w4 0 0 27 [(0, .ref (A 0)), (1, .int p1), (2, .int (nI k27))] [] := by
        intro r27
        induction r27 with
        | zero =>
          intro k27 y_who_seed_27 y_thought_27 w4 out hb ho h_who h_thought h_now h_village hE hk
          refine vv_iload_n hC 2 dX8_years_27 rfl rfl ?_
          refine vv_iload_n hC 1 dX8_years_28 rfl rfl ?_
          refine vv_topi (nI (tn p1)) ((c18_e (n := 30) c1 (Int32.not_lt.mpr c2) (by decide)).1) ?_
          refine vv_icmp_ge hC 70 dX8_years_29 (by decide) (fun c => ?_) (fun c => False.elim (c ((nI_le_ (a := tn p1) (b := k27) (by omega) (by omega)).mpr (by omega))))
          refine vv_lv [0, 1] rfl ?_
          have ho := ho.trans (by first | (simp only [f_X8_years_L27]; done) | rfl | (simp only [f_X8_years_L27]; rfl) : _ = (y_who_seed_27, y_thought_27))
          subst ho
          exact hk w4 h_who h_thought h_now h_village hE
        | succ r27 ih =>
          intro k27 y_who_seed_27 y_thought_27 w4 out hb ho h_who h_thought h_now h_village hE hk
          refine vv_iload_n hC 2 dX8_years_27 rfl rfl ?_
          refine vv_iload_n hC 1 dX8_years_28 rfl rfl ?_
          refine vv_topi (nI (tn p1)) ((c18_e (n := 30) c1 (Int32.not_lt.mpr c2) (by decide)).1) ?_
          refine vv_icmp_ge hC 70 dX8_years_29 (by decide) (fun c => absurd ((nI_le_ (a := tn p1) (b := k27) (by omega) (by omega)).mp c) (by first | omega | decide)) (fun c => ?_)
          refine vv_iconst (v := 0) hC dX8_years_32 (by decide) ?_
          refine vv_istore_n (lv2 := [(3, .int 0), (0, .ref (A 0)), (1, .int p1), (2, .int (nI k27))]) hC dX8_years_33 rfl (by decide) rfl ?_
          have hL8 : ∀ (r34 k34 : Nat) (y_who_seed_34 : Int64) (y_thought_34 : TN) (w5 : Wd) (out : Int64 × TN), k34 + r34 = gVi_people village → out = f_X8_years_L34 village r34 k34 y_who_seed_34 y_thought_34 → w5 (A 0) = some (.inr (8, cWh A vi (who_keptSlots, y_who_seed_34))) → w5 (A 4) = some (.inr (2, cN y_thought_34)) → w5 (A 3) = some (.inr (2, cN now)) → w5 vi = some (.inr (7, cVi village)) → wE (fun q => q = (A 0) ∨ q = (A 4)) w0 w5 → (∀ w7 : Wd, w7 (A 0) = some (.inr (8, cWh A vi (who_keptSlots, out.1))) → w7 (A 4) = some (.inr (2, cN out.2)) → w7 (A 3) = some (.inr (2, cN now)) → w7 vi = some (.inr (7, cVi village)) → wE (fun q => q = (A 0) ∨ q = (A 4)) w0 w7 → V g X 4 w7 0 0 56 [(0, .ref (A 0)), (1, .int p1), (2, .int (nI k27))] []) → V g X 4 w5 0 0 34 [(0, .ref (A 0)), (1, .int p1), (2, .int (nI k27)), (3, .int (nI k34))] [] := by
            intro r34
            induction r34 with
            | zero =>
              intro k34 y_who_seed_34 y_thought_34 w5 out hb ho h_who h_thought h_now h_village hE hk
              refine vv_iload_n hC 3 dX8_years_34 rfl rfl ?_
              refine vv_aload_n hC 0 dX8_years_35 rfl rfl ?_
              refine vv_get (v := .ref vi) hC fl_X8_19 dX8_years_36 h_who rfl ?_
              refine vv_getN (v := .int (nI (gVi_people village))) hC fl_X8_104 dX8_years_39 h_village rfl ?_
              refine vv_icmp_ge hC 56 dX8_years_42 (by decide) (fun c => ?_) (fun c => False.elim (c ((nI_le_ (a := gVi_people village) (b := k34) (by omega) (by omega)).mpr (by omega))))
              refine vv_lv [0, 1, 2] rfl ?_
              have ho := ho.trans (by first | (simp only [f_X8_years_L34]; done) | rfl | (simp only [f_X8_years_L34]; rfl) : _ = (y_who_seed_34, y_thought_34))
              subst ho
              exact hk w5 h_who h_thought h_now h_village hE
            | succ r34 ih =>
              intro k34 y_who_seed_34 y_thought_34 w5 out hb ho h_who h_thought h_now h_village hE hk
              refine vv_iload_n hC 3 dX8_years_34 rfl rfl ?_
              refine vv_aload_n hC 0 dX8_years_35 rfl rfl ?_
              refine vv_get (v := .ref vi) hC fl_X8_19 dX8_years_36 h_who rfl ?_
              refine vv_getN (v := .int (nI (gVi_people village))) hC fl_X8_104 dX8_years_39 h_village rfl ?_
              refine vv_icmp_ge hC 56 dX8_years_42 (by decide) (fun c => absurd ((nI_le_ (a := gVi_people village) (b := k34) (by omega) (by omega)).mp c) (by first | omega | decide)) (fun c => ?_)
              refine vv_aload_n hC 0 dX8_years_45 rfl rfl ?_
              refine vv_iload_n hC 3 dX8_years_46 rfl rfl ?_
              refine vv_callV hC dX8_years_47 md_X8_walkBySeed lk_m_X8_290 lk_i_X8_walkBySeed lk_s_X8_walkBySeed h_who rfl (As := [.int (nI k34)]) (rest := []) (c_X8_walkBySeed g w5 A hA vi who_keptSlots y_who_seed_34 y_thought_34 village (nI k34) (by omega) (by omega) h_who h_thought h_village) rfl rfl (Nat.le_of_ble_eq_true rfl) ⟨by decide, by decide, by decide, by decide⟩ (fun r w9 hq => ?_)
              obtain ⟨rfl, t1, t2, hs⟩ := hq
              obtain ⟨w6, rfl⟩ : ∃ z, z = w9 := ⟨_, rfl⟩
              have h_now := hs _ _ (fun z => z.elim (fw_oo h_now h_who (by decide)) (fw_inj hA (by decide) (by decide) (by decide))) h_now
              have h_village := hs _ _ (fun z => z.elim (fw_oo h_village h_who (by decide)) (fw_oo h_village h_thought (by decide))) h_village
              have h_who := t1
              have h_thought := t2
              have hE := hE.trans (hs.mono (fun _ z => z.elim (fun z => (Or.inl z)) (fun z => (Or.inr z))))
              show V g X 4 w6 0 0 50 [(0, .ref (A 0)), (1, .int p1), (2, .int (nI k27)), (3, .int (nI k34))] []
              refine vv_iinc (lv2 := [(3, .int (nI (k34 + 1))), (0, .ref (A 0)), (1, .int p1), (2, .int (nI k27))]) hC 3 dX8_years_50 rfl (nI_add k34 1) (by decide) rfl ?_
              refine vv_goto hC 34 dX8_years_53 (by decide) ?_
              refine vv_lv [1, 2, 3, 0] rfl ?_
              exact ih (k34 + 1) ((f_X8_walkBySeed y_who_seed_34 y_thought_34 village (nI k34)).1) ((f_X8_walkBySeed y_who_seed_34 y_thought_34 village (nI k34)).2) w6 out (by omega) (ho.trans (by first | (simp only [f_X8_years_L34]; done) | rfl | (simp only [f_X8_years_L34]; rfl))) h_who h_thought h_now h_village hE hk
          refine vv_lv [1, 2, 3, 0] rfl ?_
          refine hL8 (gVi_people village) 0 y_who_seed_27 y_thought_27 w4 (f_X8_years_L34 village (gVi_people village) 0 y_who_seed_27 y_thought_27) (by omega) rfl h_who h_thought h_now h_village hE ?_
          intro w7 h_who h_thought h_now h_village hE
          refine vv_aload_n hC 0 dX8_years_56 rfl rfl ?_
          refine vv_get (v := .ref (A 4)) hC fl_X8_30 dX8_years_57 h_who rfl ?_
          refine vv_callV hC dX8_years_60 md_X2_nextNight lk_m_X8_181 lk_i_X2_nextNight lk_s_X2_nextNight h_thought rfl (As := []) (rest := []) (c_X2_nextNight g w7 (A 4) ((f_X8_years_L34 village (gVi_people village) 0 y_who_seed_27 y_thought_27).2) h_thought) rfl rfl (Nat.le_of_ble_eq_true rfl) ⟨by decide, by decide, by decide, by decide⟩ (fun r w9 hq => ?_)
          obtain ⟨rfl, t1, hs⟩ := hq
          obtain ⟨w9, rfl⟩ : ∃ z, z = w9 := ⟨_, rfl⟩
          have h_who := hs _ _ (fw_oo h_who h_thought (by decide)) h_who
          have h_now := hs _ _ (fw_inj hA (by decide) (by decide) (by decide)) h_now
          have h_village := hs _ _ (fw_oo h_village h_thought (by decide)) h_village
          have h_thought := t1
          have hE := hE.trans (hs.mono (fun _ z => (Or.inr z)))
          show V g X 4 w9 0 0 63 [(0, .ref (A 0)), (1, .int p1), (2, .int (nI k27))] [.int ((f_X2_nextNight ((f_X8_years_L34 village (gVi_people village) 0 y_who_seed_27 y_thought_27).2)).1)]
          refine vv_pop hC dX8_years_63 rfl ?_
          refine vv_iinc (lv2 := [(2, .int (nI (k27 + 1))), (0, .ref (A 0)), (1, .int p1)]) hC 2 dX8_years_64 rfl (nI_add k27 1) (by decide) rfl ?_
          refine vv_goto hC 27 dX8_years_67 (by decide) ?_
          refine vv_lv [1, 2, 0] rfl ?_
          exact ih (k27 + 1) ((f_X8_years_L34 village (gVi_people village) 0 y_who_seed_27 y_thought_27).1) ((f_X2_nextNight ((f_X8_years_L34 village (gVi_people village) 0 y_who_seed_27 y_thought_27).2)).2) w9 out (by omega) (ho.trans (by first | (simp only [f_X8_years_L27]; done) | rfl | (simp only [f_X8_years_L27]; rfl))) h_who h_thought h_now h_village hE hk
      refine vv_lv [1, 2, 0] rfl ?_
      refine hL11 (tn p1) 0 who_seed (f_X2_copyFrom thought now) w3 (f_X8_years_L27 village (tn p1) 0 who_seed (f_X2_copyFrom thought now)) (by omega) rfl h_who h_thought h_now h_village hE ?_
      intro w10 h_who h_thought h_now h_village hE
      refine vv_aload_n hC 0 dX8_years_70 rfl rfl ?_
      refine vv_get (v := .ref (A 4)) hC fl_X8_30 dX8_years_71 h_who rfl ?_
      refine vv_getN (v := .int (gN_wolves ((f_X8_years_L27 village (tn p1) 0 who_seed (f_X2_copyFrom thought now)).2))) hC fl_X8_140 dX8_years_74 h_thought rfl ?_
      refine vv_aload_n hC 0 dX8_years_77 rfl rfl ?_
      refine vv_get (v := .ref (A 4)) hC fl_X8_30 dX8_years_78 h_who rfl ?_
      refine vv_aload_n hC 0 dX8_years_81 rfl rfl ?_
      refine vv_get (v := .ref vi) hC fl_X8_19 dX8_years_82 h_who rfl ?_
      refine vv_callV hC dX8_years_85 md_X2_there lk_m_X8_236 lk_i_X2_there lk_s_X2_there h_thought rfl (As := [.ref vi]) (rest := [.int (gN_wolves ((f_X8_years_L27 village (tn p1) 0 who_seed (f_X2_copyFrom thought now)).2))]) (c_X2_there g w10 (A 4) vi ((f_X8_years_L27 village (tn p1) 0 who_seed (f_X2_copyFrom thought now)).2) village h_thought h_village) rfl rfl (Nat.le_of_ble_eq_true rfl) ⟨by decide, by decide, by decide, by decide⟩ (fun r w9 hq => ?_)
      obtain ⟨rfl, rfl⟩ := hq
      show V g X 4 w10 0 0 88 [(0, .ref (A 0)), (1, .int p1)] [.int (f_X2_there ((f_X8_years_L27 village (tn p1) 0 who_seed (f_X2_copyFrom thought now)).2) village), .int (gN_wolves ((f_X8_years_L27 village (tn p1) 0 who_seed (f_X2_copyFrom thought now)).2))]
      refine vv_iand hC dX8_years_88 ?_
      have hf : (f_X8_years who_seed thought now village p1) = ((gN_wolves ((f_X8_years_L27 village (tn p1) 0 who_seed (f_X2_copyFrom thought now)).2) &&& f_X2_there ((f_X8_years_L27 village (tn p1) 0 who_seed (f_X2_copyFrom thought now)).2) village), (f_X8_years_L27 village (tn p1) 0 who_seed (f_X2_copyFrom thought now)).1, (f_X8_years_L27 village (tn p1) 0 who_seed (f_X2_copyFrom thought now)).2) := by first | (simp only [f_X8_years, if_neg c1, if_pos c2]; done) | rfl | (simp only [f_X8_years, if_neg c1, if_pos c2]; rfl)
      refine vv_iret hC hR rfl dX8_years_89 (by omega) (by omega) ?_
      rw [hf]
      try dsimp only
      exact ⟨rfl, h_who, h_thought, hE⟩
    · have c2 : ¬ (p1 ≤ 30) := c2
      refine vv_bipush (v := (-2)) hC dX8_years_11 (by decide) ?_
      have hf : (f_X8_years who_seed thought now village p1) = ((-2), who_seed, thought) := by first | (simp only [f_X8_years, if_neg c1, if_neg c2]; done) | rfl | (simp only [f_X8_years, if_neg c1, if_neg c2]; rfl)
      refine vv_iret hC hR rfl dX8_years_13 (by omega) (by omega) ?_
      rw [hf]
      try dsimp only
      exact ⟨rfl, h_who, h_thought, hE⟩
