def f_X9_write_L39 (p2 : Int64) : Nat → Nat → (Nat → Int32) → Nat × (Nat → Int32)
  | 0, y_x_size_39, y_text_39 => (y_x_size_39, y_text_39)
  | r39 + 1, y_x_size_39, y_text_39 => f_X9_write_L39 p2 r39 (y_x_size_39 + 1) (upd y_text_39 y_x_size_39 (((lshr p2 (nI (8 * r39))) &&& 255).toInt32))
def f_X9_write (x_size : Nat) (text : Nat → Int32) (p1 : Int32) (p2 : Int64) : Int32 × Int32 × Nat × (Nat → Int32) := (if f_X9_in p1.toInt64 1 8 = true then (if x_size + tn p1 ≤ 96 then (nI ((f_X9_write_L39 p2 (((tn p1) - 1) + 1) x_size text).1), 0, (f_X9_write_L39 p2 (((tn p1) - 1) + 1) x_size text).1, (f_X9_write_L39 p2 (((tn p1) - 1) + 1) x_size text).2) else ((-4), 0, x_size, text)) else ((-2), 0, x_size, text))
set_option maxHeartbeats 4000000 in
set_option maxRecDepth 100000 in
theorem c_X9_write (g : GT) (w0 : Wd) (B : Nat → Nat) (hB : ∀ i j, i < 60 → j < 60 → B i = B j → i = j) (x_thrown : Int32) (x_houses : Nat) (x_people : Nat) (x_paths : Nat) (x_acts : Nat) (x_size : Nat) (x_at : Nat) (x_readHouses : Nat) (x_readPeople : Nat) (x_readPaths : Nat) (x_sights : Nat) (x_drawn : Int64) (text : Nat → Int32) (p1 : Int32) (p2 : Int64) (hsz : x_size ≤ 96) (h_m : w0 (B 0) = some (.inr (9, cM B (x_thrown, x_houses, x_people, x_paths, x_acts, x_size, x_at, x_readHouses, x_readPeople, x_readPaths, x_sights, x_drawn)))) (h_text : w0 (B 12) = some (.inl (g.2.2.1 0, 96, .inl text))) : CT g yX9_write cX9_write 5 (some .int) 1 25 0 0 w0 [.ref (B 0), .int p1, .long p2] (fun r w2 => r = some (.int ((f_X9_write x_size text p1 p2).1)) ∧ w2 (B 0) = some (.inr (9, cM B ((f_X9_write x_size text p1 p2).2.1, x_houses, x_people, x_paths, x_acts, (f_X9_write x_size text p1 p2).2.2.1, x_at, x_readHouses, x_readPeople, x_readPaths, x_sights, x_drawn))) ∧ w2 (B 12) = some (.inl (g.2.2.1 0, 96, .inl ((f_X9_write x_size text p1 p2).2.2.2))) ∧ wE (fun q => q = (B 0) ∨ q = (B 12)) w0 w2) := by
  refine CT.of (own := RX9) (by decide +kernel) rfl (Nat.le_of_ble_eq_true rfl) (fun X hC hR hI => ?_)
  show V g X 5 w0 0 0 0 [(0, .ref (B 0)), (1, .int p1), (2, .long p2)] []
  have hE : wE (fun q => q = (B 0) ∨ q = (B 12)) w0 w0 := wE.refl
  refine vv_aload_n hC 0 dX9_write_0 rfl rfl ?_
  refine vv_iconst (v := 0) hC dX9_write_1 (by decide) ?_
  refine vv_put hC fp_X9_69 dX9_write_2 h_m rfl rfl (Nat.le_of_ble_eq_true rfl) (fun w1 t1 hs => ?_)
  have t1 : w1 (B 0) = some (.inr (9, cM B (0, x_houses, x_people, x_paths, x_acts, x_size, x_at, x_readHouses, x_readPeople, x_readPaths, x_sights, x_drawn))) := t1.trans (congrArg (fun z => some (Sum.inr (9, z))) (eM_thrown _ _ _ _ _ _ _ _ _ _ _ _ _ _))
  have h_text := hs _ _ (fw_ao h_text h_m) h_text
  have h_m := t1
  have hE := hE.trans (hs.mono (fun _ z => (Or.inl z)))
  refine vv_iload_n hC 1 dX9_write_5 rfl rfl ?_
  refine vv_i2l hC dX9_write_6 ?_
  refine vv_lconst (v := 1) hC dX9_write_7 (by decide) ?_
  refine vv_ldc2 (v := (8)) hC lk_l_X9_91 dX9_write_8 ?_
  refine vv_callS hC dX9_write_11 md_X9_in lk_m_X9_76 lk_t_X9_in (As := [.long p1.toInt64, .long 1, .long 8]) (rest := []) (c_X9_in g w1 p1.toInt64 1 8) rfl rfl (Nat.le_of_ble_eq_true rfl) ⟨by decide, by decide, by decide, by decide⟩ (fun r w9 hq => ?_)
  obtain ⟨rfl, rfl⟩ := hq
  show V g X 5 w1 0 0 14 [(0, .ref (B 0)), (1, .int p1), (2, .long p2)] [.int (bI (f_X9_in p1.toInt64 1 8))]
  refine vv_if_ne hC 20 dX9_write_14 (by decide) (fun c2 => ?_) (fun c2 => ?_)
  · have c2 : f_X9_in p1.toInt64 1 8 = true := bI_t c2
    have bc2 := inC_b (lo := 1) (hi := 8) (by decide) (by decide) (by decide) c2
    refine vv_aload_n hC 0 dX9_write_20 rfl rfl ?_
    refine vv_get (v := .int (nI x_size)) hC fl_X9_93 dX9_write_21 h_m rfl ?_
    refine vv_iload_n hC 1 dX9_write_24 rfl rfl ?_
    refine vv_topi (nI (tn p1)) (inC_e (lo := 1) (hi := 8) (by decide) (by decide) (by decide) c2) ?_
    refine vv_iadd hC dX9_write_25 ?_
    refine vv_topi (nI (x_size + tn p1)) (nI_add x_size (tn p1)) ?_
    refine vv_bipush (v := (96)) hC dX9_write_26 (by decide) ?_
    refine vv_icmp_le hC 34 dX9_write_28 (by decide) (fun c3 => ?_) (fun c3 => ?_)
    · have c3 : x_size + tn p1 ≤ 96 := (nI_le_ (a := x_size + tn p1) (b := 96) (by omega) (by omega)).mp c3
      refine vv_iload_n hC 1 dX9_write_34 rfl rfl ?_
      refine vv_topi (nI (tn p1)) (inC_e (lo := 1) (hi := 8) (by decide) (by decide) (by decide) c2) ?_
      refine vv_iconst (v := 1) hC dX9_write_35 (by decide) ?_
      refine vv_isub hC dX9_write_36 ?_
      refine vv_topi (nI ((tn p1) - 1)) (pk_sub (a := tn p1) (b := 1) (by omega)) ?_
      refine vv_istore (lv2 := [(4, .int (nI ((tn p1) - 1))), (0, .ref (B 0)), (1, .int p1), (2, .long p2)]) hC dX9_write_37 (by decide) rfl ?_
      have hL8 : ∀ (r39 : Nat) (y_x_size_39 : Nat) (y_text_39 : Nat → Int32) (w4 : Wd) (out : Nat × (Nat → Int32)), y_x_size_39 + r39 ≤ 96 → out = f_X9_write_L39 p2 r39 y_x_size_39 y_text_39 → w4 (B 0) = some (.inr (9, cM B (0, x_houses, x_people, x_paths, x_acts, y_x_size_39, x_at, x_readHouses, x_readPeople, x_readPaths, x_sights, x_drawn))) → w4 (B 12) = some (.inl (g.2.2.1 0, 96, .inl y_text_39)) → wE (fun q => q = (B 0) ∨ q = (B 12)) w0 w4 → (∀ w7 : Wd, w7 (B 0) = some (.inr (9, cM B (0, x_houses, x_people, x_paths, x_acts, out.1, x_at, x_readHouses, x_readPeople, x_readPaths, x_sights, x_drawn))) → w7 (B 12) = some (.inl (g.2.2.1 0, 96, .inl out.2)) → wE (fun q => q = (B 0) ∨ q = (B 12)) w0 w7 → V g X 5 w7 0 0 81 [(0, .ref (B 0)), (1, .int p1), (2, .long p2)] []) → V g X 5 w4 0 0 39 [(0, .ref (B 0)), (1, .int p1), (2, .long p2), (4, .int (nI r39 - 1))] [] := by
        intro r39
        induction r39 with
        | zero =>
          intro y_x_size_39 y_text_39 w4 out hsz2 ho h_m h_text hE hk
          
          refine vv_iload hC 3 dX9_write_39 rfl ?_
          refine vv_if_lt hC 81 dX9_write_41 (by decide) (fun c => ?_) (fun c => absurd (c) (by first | omega | decide))
          refine vv_lv [0, 1, 2] rfl ?_
          have ho := ho.trans (by first | (simp only [f_X9_write_L39]; done) | rfl | (simp only [f_X9_write_L39]; rfl) : _ = (y_x_size_39, y_text_39))
          subst ho
          exact hk w4 h_m h_text hE
        | succ r39 ih =>
          intro y_x_size_39 y_text_39 w4 out hsz2 ho h_m h_text hE hk
          rw [nI_pred]
          
          refine vv_iload hC 3 dX9_write_39 rfl ?_
          refine vv_if_lt hC 81 dX9_write_41 (by decide) (fun c => absurd c (nI_neg (by omega))) (fun _ => ?_)
          refine vv_aload_n hC 0 dX9_write_44 rfl rfl ?_
          refine vv_get (v := .ref (B 12)) hC fl_X9_32 dX9_write_45 h_m rfl ?_
          refine vv_aload_n hC 0 dX9_write_48 rfl rfl ?_
          refine vv_get (v := .int (nI y_x_size_39)) hC fl_X9_93 dX9_write_49 h_m rfl ?_
          refine vv_lload_n hC 2 dX9_write_52 rfl rfl ?_
          refine vv_bipush (v := (8)) hC dX9_write_53 (by decide) ?_
          refine vv_iload hC 3 dX9_write_55 rfl ?_
          refine vv_imul hC dX9_write_57 ?_
          refine vv_topi (nI (8 * r39)) (pk_mul 8 r39) ?_
          refine vv_lshr hC dX9_write_58 ?_
          refine vv_ldc2 (v := (255)) hC lk_l_X9_96 dX9_write_59 ?_
          refine vv_land hC dX9_write_62 ?_
          refine vv_l2i hC dX9_write_63 ?_
          refine vv_iastn (t := y_x_size_39) hC dX9_write_64 h_text (by omega) (by decide) (fun w5 t1 hs => ?_)
          have t1 : w5 (B 12) = some (.inl (g.2.2.1 0, 96, .inl (upd y_text_39 y_x_size_39 (((lshr p2 (nI (8 * r39))) &&& 255).toInt32)))) := t1
          have h_m := hs _ _ (fw_oa h_m h_text) h_m
          have h_text := t1
          have hE := hE.trans (hs.mono (fun _ z => (Or.inr z)))
          refine vv_aload_n hC 0 dX9_write_65 rfl rfl ?_
          refine vv_dup hC dX9_write_66 rfl ?_
          refine vv_get (v := .int (nI y_x_size_39)) hC fl_X9_93 dX9_write_67 h_m rfl ?_
          refine vv_iconst (v := 1) hC dX9_write_70 (by decide) ?_
          refine vv_iadd hC dX9_write_71 ?_
          refine vv_topi (nI (y_x_size_39 + 1)) (nI_add y_x_size_39 1) ?_
          refine vv_put hC fp_X9_93 dX9_write_72 h_m rfl rfl (Nat.le_of_ble_eq_true rfl) (fun w6 t1 hs => ?_)
          have t1 : w6 (B 0) = some (.inr (9, cM B (0, x_houses, x_people, x_paths, x_acts, y_x_size_39 + 1, x_at, x_readHouses, x_readPeople, x_readPaths, x_sights, x_drawn))) := t1.trans (congrArg (fun z => some (Sum.inr (9, z))) (eM_size _ _ _ _ _ _ _ _ _ _ _ _ _ _))
          have h_text := hs _ _ (fw_ao h_text h_m) h_text
          have h_m := t1
          have hE := hE.trans (hs.mono (fun _ z => (Or.inl z)))
          refine vv_iinc (lv2 := [(4, .int (nI r39 - 1)), (0, .ref (B 0)), (1, .int p1), (2, .long p2)]) hC 3 dX9_write_75 rfl (i32_m1 _) (by decide) rfl ?_
          refine vv_goto hC 39 dX9_write_78 (by decide) ?_
          refine vv_lv [1, 2, 3, 0] rfl ?_
          exact ih (y_x_size_39 + 1) (upd y_text_39 y_x_size_39 (((lshr p2 (nI (8 * r39))) &&& 255).toInt32)) w6 out (by omega) (ho.trans (by first | (simp only [f_X9_write_L39]; done) | rfl | (simp only [f_X9_write_L39]; rfl))) h_m h_text hE hk
      refine vv_lv [1, 2, 3, 0] rfl ?_
      rw [← nI_pred ((tn p1) - 1)]
      refine hL8 (((tn p1) - 1) + 1) x_size text w1 (f_X9_write_L39 p2 (((tn p1) - 1) + 1) x_size text) (by omega) rfl h_m h_text hE ?_
      intro w7 h_m h_text hE
      refine vv_aload_n hC 0 dX9_write_81 rfl rfl ?_
      refine vv_get (v := .int (nI ((f_X9_write_L39 p2 (((tn p1) - 1) + 1) x_size text).1))) hC fl_X9_93 dX9_write_82 h_m rfl ?_
      have hf : (f_X9_write x_size text p1 p2) = (nI ((f_X9_write_L39 p2 (((tn p1) - 1) + 1) x_size text).1), 0, (f_X9_write_L39 p2 (((tn p1) - 1) + 1) x_size text).1, (f_X9_write_L39 p2 (((tn p1) - 1) + 1) x_size text).2) := by first | (simp only [f_X9_write, if_pos c2, if_pos c3]; done) | rfl | (simp only [f_X9_write, if_pos c2, if_pos c3]; rfl)
      refine vv_iret hC hR rfl dX9_write_85 (by omega) (by omega) ?_
      rw [hf]
      try dsimp only
      exact ⟨rfl, h_m, h_text, hE⟩
    · have c3 : ¬ (x_size + tn p1 ≤ 96) := fun z => c3 ((nI_le_ (a := x_size + tn p1) (b := 96) (by omega) (by omega)).mpr z)
      refine vv_bipush (v := (-4)) hC dX9_write_31 (by decide) ?_
      have hf : (f_X9_write x_size text p1 p2) = ((-4), 0, x_size, text) := by first | (simp only [f_X9_write, if_pos c2, if_neg c3]; done) | rfl | (simp only [f_X9_write, if_pos c2, if_neg c3]; rfl)
      refine vv_iret hC hR rfl dX9_write_33 (by omega) (by omega) ?_
      rw [hf]
      try dsimp only
      exact ⟨rfl, h_m, h_text, hE⟩
  · have c2 : ¬ (f_X9_in p1.toInt64 1 8 = true) := bI_f c2
    refine vv_bipush (v := (-2)) hC dX9_write_17 (by decide) ?_
    have hf : (f_X9_write x_size text p1 p2) = ((-2), 0, x_size, text) := by first | (simp only [f_X9_write, if_neg c2]; done) | rfl | (simp only [f_X9_write, if_neg c2]; rfl)
    refine vv_iret hC hR rfl dX9_write_19 (by omega) (by omega) ?_
    rw [hf]
    try dsimp only
    exact ⟨rfl, h_m, h_text, hE⟩
def f_X9_areTwo_L34 (k4 : Nat) : Nat → Nat → Bool → Nat → Bool × Nat
  | 0, k34, l4_34, l5_34 => (l4_34, l5_34)
  | r34 + 1, k34, l4_34, l5_34 => f_X9_areTwo_L34 k4 r34 (k34 + 1) (if l4_34 = true then (if l5_34 % 3 = 0 then true else (if bI (if l5_34 % 3 = 1 then true else false) = bI (f_X9_has (nI k4) (nI k34)) then true else false)) else false) (l5_34 / 3)
def f_X9_areTwo_L4 (tales : Nat → Int64) (p1 : Nat) : Nat → Nat → Int32 → Int32
  | 0, k4, l2_4 => l2_4
  | r4 + 1, k4, l2_4 => f_X9_areTwo_L4 tales p1 r4 (k4 + 1) (l2_4 + bI (if (f_X9_areTwo_L34 k4 6 0 (if 0 < tales k4 then true else false) p1).1 = true then true else false))
def f_X9_areTwo (tales : Nat → Int64) (p1 : Nat) : Bool := (if (f_X9_areTwo_L4 tales p1 64 0 0) ≤ 1 then false else true)
set_option maxHeartbeats 4000000 in
set_option maxRecDepth 100000 in
theorem c_X9_areTwo (g : GT) (w0 : Wd) (B : Nat → Nat) (hB : ∀ i j, i < 60 → j < 60 → B i = B j → i = j) (x_thrown : Int32) (x_houses : Nat) (x_people : Nat) (x_paths : Nat) (x_acts : Nat) (x_size : Nat) (x_at : Nat) (x_readHouses : Nat) (x_readPeople : Nat) (x_readPaths : Nat) (x_sights : Nat) (x_drawn : Int64) (tales : Nat → Int64) (p1 : Nat) (hk : p1 < 729) (h_m : w0 (B 0) = some (.inr (9, cM B (x_thrown, x_houses, x_people, x_paths, x_acts, x_size, x_at, x_readHouses, x_readPeople, x_readPaths, x_sights, x_drawn)))) (h_tales : w0 (B 25) = some (.inl (g.2.2.1 1, 64, .inr (.inl tales)))) : CT g yX9_areTwo cX9_areTwo 7 (some .boolean) 1 21 0 0 w0 [.ref (B 0), .int (nI p1)] (fun r w2 => r = some (.int (bI (f_X9_areTwo tales p1))) ∧ w0 = w2) := by
  refine CT.of (own := RX9) (by decide +kernel) rfl (Nat.le_of_ble_eq_true rfl) (fun X hC hR hI => ?_)
  show V g X 7 w0 0 0 0 [(0, .ref (B 0)), (1, .int (nI p1))] []
  refine vv_iconst (v := 0) hC dX9_areTwo_0 (by decide) ?_
  refine vv_istore_n (lv2 := [(2, .int 0), (0, .ref (B 0)), (1, .int (nI p1))]) hC dX9_areTwo_1 rfl (by decide) rfl ?_
  refine vv_iconst (v := 0) hC dX9_areTwo_2 (by decide) ?_
  refine vv_istore_n (lv2 := [(3, .int 0), (2, .int 0), (0, .ref (B 0)), (1, .int (nI p1))]) hC dX9_areTwo_3 rfl (by decide) rfl ?_
  have hL12 : ∀ (r4 k4 : Nat) (l2_4 : Int32) (out : Int32), k4 + r4 = 64 → out = f_X9_areTwo_L4 tales p1 r4 k4 l2_4 → V g X 7 w0 0 0 113 [(0, .ref (B 0)), (1, .int (nI p1)), (2, .int out)] [] → V g X 7 w0 0 0 4 [(0, .ref (B 0)), (1, .int (nI p1)), (2, .int l2_4), (3, .int (nI k4))] [] := by
    intro r4
    induction r4 with
    | zero =>
      intro k4 l2_4 out hb ho hk
      refine vv_iload_n hC 3 dX9_areTwo_4 rfl rfl ?_
      refine vv_bipush (v := (64)) hC dX9_areTwo_5 (by decide) ?_
      refine vv_icmp_ge hC 113 dX9_areTwo_7 (by decide) (fun c => ?_) (fun c => False.elim (c ((nI_le_ (a := 64) (b := k4) (by omega) (by omega)).mpr (by omega))))
      refine vv_lv [0, 1, 2] rfl ?_
      have ho := ho.trans (by first | (simp only [f_X9_areTwo_L4]; done) | rfl | (simp only [f_X9_areTwo_L4]; rfl) : _ = l2_4)
      subst ho
      exact hk
    | succ r4 ih =>
      intro k4 l2_4 out hb ho hk
      refine vv_iload_n hC 3 dX9_areTwo_4 rfl rfl ?_
      refine vv_bipush (v := (64)) hC dX9_areTwo_5 (by decide) ?_
      refine vv_icmp_ge hC 113 dX9_areTwo_7 (by decide) (fun c => absurd ((nI_le_ (a := 64) (b := k4) (by omega) (by omega)).mp c) (by first | omega | decide)) (fun c => ?_)
      refine vv_aload_n hC 0 dX9_areTwo_10 rfl rfl ?_
      refine vv_get (v := .ref (B 25)) hC fl_X9_53 dX9_areTwo_11 h_m rfl ?_
      refine vv_iload_n hC 3 dX9_areTwo_14 rfl rfl ?_
      refine vv_laldn (t := k4) hC dX9_areTwo_15 h_tales (by omega) (by decide) ?_
      refine vv_lconst (v := 0) hC dX9_areTwo_16 (by decide) ?_
      refine vv_lcmp hC dX9_areTwo_17 ?_
      have hJ2 : V g X 7 w0 0 0 26 [(0, .ref (B 0)), (1, .int (nI p1)), (2, .int l2_4), (3, .int (nI k4))] [.int (bI (if 0 < tales k4 then true else false))] := by
        refine vv_istore (lv2 := [(4, .int (bI (if 0 < tales k4 then true else false))), (0, .ref (B 0)), (1, .int (nI p1)), (2, .int l2_4), (3, .int (nI k4))]) hC dX9_areTwo_26 (by decide) rfl ?_
        refine vv_iload_n hC 2 dX9_areTwo_28 rfl rfl ?_
        refine vv_istore (lv2 := [(5, .int (nI p1)), (4, .int (bI (if 0 < tales k4 then true else false))), (0, .ref (B 0)), (1, .int (nI p1)), (2, .int l2_4), (3, .int (nI k4))]) hC dX9_areTwo_29 (by decide) rfl ?_
        refine vv_iconst (v := 0) hC dX9_areTwo_31 (by decide) ?_
        refine vv_istore (lv2 := [(6, .int 0), (5, .int (nI p1)), (4, .int (bI (if 0 < tales k4 then true else false))), (0, .ref (B 0)), (1, .int (nI p1)), (2, .int l2_4), (3, .int (nI k4))]) hC dX9_areTwo_32 (by decide) rfl ?_
        have hL9 : ∀ (r34 k34 : Nat) (l4_34 : Bool) (l5_34 : Nat) (out : Bool × Nat), k34 + r34 = 6 → l5_34 < 729 → out = f_X9_areTwo_L34 k4 r34 k34 l4_34 l5_34 → V g X 7 w0 0 0 94 [(0, .ref (B 0)), (1, .int (nI p1)), (2, .int l2_4), (3, .int (nI k4)), (4, .int (bI out.1)), (5, .int (nI out.2))] [] → V g X 7 w0 0 0 34 [(0, .ref (B 0)), (1, .int (nI p1)), (2, .int l2_4), (3, .int (nI k4)), (4, .int (bI l4_34)), (5, .int (nI l5_34)), (6, .int (nI k34))] [] := by
          intro r34
          induction r34 with
          | zero =>
            intro k34 l4_34 l5_34 out hb hl ho hk
            refine vv_iload hC 6 dX9_areTwo_34 rfl ?_
            refine vv_bipush (v := (6)) hC dX9_areTwo_36 (by decide) ?_
            refine vv_icmp_ge hC 94 dX9_areTwo_38 (by decide) (fun c => ?_) (fun c => False.elim (c ((nI_le_ (a := 6) (b := k34) (by omega) (by omega)).mpr (by omega))))
            refine vv_lv [0, 1, 2, 3, 4, 5] rfl ?_
            have ho := ho.trans (by first | (simp only [f_X9_areTwo_L34]; done) | rfl | (simp only [f_X9_areTwo_L34]; rfl) : _ = (l4_34, l5_34))
            subst ho
            exact hk
          | succ r34 ih =>
            intro k34 l4_34 l5_34 out hb hl ho hk
            refine vv_iload hC 6 dX9_areTwo_34 rfl ?_
            refine vv_bipush (v := (6)) hC dX9_areTwo_36 (by decide) ?_
            refine vv_icmp_ge hC 94 dX9_areTwo_38 (by decide) (fun c => absurd ((nI_le_ (a := 6) (b := k34) (by omega) (by omega)).mp c) (by first | omega | decide)) (fun c => ?_)
            refine vv_iload hC 4 dX9_areTwo_41 rfl ?_
            have hJ4 : V g X 7 w0 0 0 80 [(0, .ref (B 0)), (1, .int (nI p1)), (2, .int l2_4), (3, .int (nI k4)), (4, .int (bI l4_34)), (5, .int (nI l5_34)), (6, .int (nI k34))] [.int (bI (if l4_34 = true then (if l5_34 % 3 = 0 then true else (if bI (if l5_34 % 3 = 1 then true else false) = bI (f_X9_has (nI k4) (nI k34)) then true else false)) else false))] := by
              refine vv_istore (lv2 := [(4, .int (bI (if l4_34 = true then (if l5_34 % 3 = 0 then true else (if bI (if l5_34 % 3 = 1 then true else false) = bI (f_X9_has (nI k4) (nI k34)) then true else false)) else false))), (0, .ref (B 0)), (1, .int (nI p1)), (2, .int l2_4), (3, .int (nI k4)), (5, .int (nI l5_34)), (6, .int (nI k34))]) hC dX9_areTwo_80 (by decide) rfl ?_
              refine vv_iload hC 5 dX9_areTwo_82 rfl ?_
              refine vv_iconst (v := 3) hC dX9_areTwo_84 (by decide) ?_
              refine vv_idiv hC dX9_areTwo_85 (by decide) ?_
              refine vv_topi (nI (l5_34 / 3)) (nI_div (a := l5_34) (d := 3) (by omega) (by omega) (by omega)) ?_
              refine vv_istore (lv2 := [(5, .int (nI (l5_34 / 3))), (4, .int (bI (if l4_34 = true then (if l5_34 % 3 = 0 then true else (if bI (if l5_34 % 3 = 1 then true else false) = bI (f_X9_has (nI k4) (nI k34)) then true else false)) else false))), (0, .ref (B 0)), (1, .int (nI p1)), (2, .int l2_4), (3, .int (nI k4)), (6, .int (nI k34))]) hC dX9_areTwo_86 (by decide) rfl ?_
              refine vv_iinc (lv2 := [(6, .int (nI (k34 + 1))), (5, .int (nI (l5_34 / 3))), (4, .int (bI (if l4_34 = true then (if l5_34 % 3 = 0 then true else (if bI (if l5_34 % 3 = 1 then true else false) = bI (f_X9_has (nI k4) (nI k34)) then true else false)) else false))), (0, .ref (B 0)), (1, .int (nI p1)), (2, .int l2_4), (3, .int (nI k4))]) hC 6 dX9_areTwo_88 rfl (nI_add k34 1) (by decide) rfl ?_
              refine vv_goto hC 34 dX9_areTwo_91 (by decide) ?_
              refine vv_lv [3, 4, 5, 6, 2, 1, 0] rfl ?_
              exact ih (k34 + 1) (if l4_34 = true then (if l5_34 % 3 = 0 then true else (if bI (if l5_34 % 3 = 1 then true else false) = bI (f_X9_has (nI k4) (nI k34)) then true else false)) else false) (l5_34 / 3) out (by omega) (by omega) (ho.trans (by first | (simp only [f_X9_areTwo_L34]; done) | rfl | (simp only [f_X9_areTwo_L34]; rfl))) hk
            refine vv_if_eq hC 79 dX9_areTwo_43 (by decide) (fun c3 => ?_) (fun c3 => ?_)
            · have c3 : ¬ (l4_34 = true) := bI_f c3
              refine vv_iconst (v := 0) hC dX9_areTwo_79 (by decide) ?_
              have hz := hJ4
              try simp only [if_neg c3] at hz
              first | exact hz | (simp only [if_neg c3]; exact hz)
            · have c3 : l4_34 = true := bI_t c3
              refine vv_iload hC 5 dX9_areTwo_46 rfl ?_
              refine vv_iconst (v := 3) hC dX9_areTwo_48 (by decide) ?_
              refine vv_irem hC dX9_areTwo_49 (by decide) ?_
              refine vv_topi (nI (l5_34 % 3)) (nI_rem (a := l5_34) (d := 3) (by omega) (by omega) (by omega)) ?_
              refine vv_if_eq hC 75 dX9_areTwo_50 (by decide) (fun c5 => ?_) (fun c5 => ?_)
              · have c5 : l5_34 % 3 = 0 := (nI_eq_ (a := l5_34 % 3) (b := 0) (by omega) (by omega)).mp c5
                refine vv_iconst (v := 1) hC dX9_areTwo_75 (by decide) ?_
                refine vv_goto hC 80 dX9_areTwo_76 (by decide) ?_
                have hz := hJ4
                try simp only [if_pos c3, if_pos c5] at hz
                first | exact hz | (simp only [if_pos c3, if_pos c5]; exact hz)
              · have c5 : ¬ (l5_34 % 3 = 0) := fun z => c5 ((nI_eq_ (a := l5_34 % 3) (b := 0) (by omega) (by omega)).mpr z)
                refine vv_iload hC 5 dX9_areTwo_53 rfl ?_
                refine vv_iconst (v := 3) hC dX9_areTwo_55 (by decide) ?_
                refine vv_irem hC dX9_areTwo_56 (by decide) ?_
                refine vv_topi (nI (l5_34 % 3)) (nI_rem (a := l5_34) (d := 3) (by omega) (by omega) (by omega)) ?_
                refine vv_iconst (v := 1) hC dX9_areTwo_57 (by decide) ?_
                have hJ7 : V g X 7 w0 0 0 66 [(0, .ref (B 0)), (1, .int (nI p1)), (2, .int l2_4), (3, .int (nI k4)), (4, .int (bI l4_34)), (5, .int (nI l5_34)), (6, .int (nI k34))] [.int (bI (if l5_34 % 3 = 1 then true else false))] := by
                  refine vv_iload_n hC 3 dX9_areTwo_66 rfl rfl ?_
                  refine vv_iload hC 6 dX9_areTwo_67 rfl ?_
                  refine vv_callS hC dX9_areTwo_69 md_X9_has lk_m_X9_127 lk_t_X9_has (As := [.int (nI k4), .int (nI k34)]) (rest := [.int (bI (if l5_34 % 3 = 1 then true else false))]) (c_X9_has g w0 (nI k4) (nI k34)) rfl rfl (Nat.le_of_ble_eq_true rfl) ⟨by decide, by decide, by decide, by decide⟩ (fun r w9 hq => ?_)
                  obtain ⟨rfl, rfl⟩ := hq
                  show V g X 7 w0 0 0 72 [(0, .ref (B 0)), (1, .int (nI p1)), (2, .int l2_4), (3, .int (nI k4)), (4, .int (bI l4_34)), (5, .int (nI l5_34)), (6, .int (nI k34))] [.int (bI (f_X9_has (nI k4) (nI k34))), .int (bI (if l5_34 % 3 = 1 then true else false))]
                  refine vv_icmp_ne hC 79 dX9_areTwo_72 (by decide) (fun c8 => ?_) (fun c8 => ?_)
                  · have c8 : ¬ (bI (if l5_34 % 3 = 1 then true else false) = bI (f_X9_has (nI k4) (nI k34))) := c8
                    refine vv_iconst (v := 0) hC dX9_areTwo_79 (by decide) ?_
                    have hz := hJ4
                    try simp only [if_pos c3, if_neg c5, if_neg c8] at hz
                    first | exact hz | (simp only [if_pos c3, if_neg c5, if_neg c8]; exact hz)
                  · have c8 : bI (if l5_34 % 3 = 1 then true else false) = bI (f_X9_has (nI k4) (nI k34)) := c8
                    refine vv_iconst (v := 1) hC dX9_areTwo_75 (by decide) ?_
                    refine vv_goto hC 80 dX9_areTwo_76 (by decide) ?_
                    have hz := hJ4
                    try simp only [if_pos c3, if_neg c5, if_pos c8] at hz
                    first | exact hz | (simp only [if_pos c3, if_neg c5, if_pos c8]; exact hz)
                refine vv_icmp_ne hC 65 dX9_areTwo_58 (by decide) (fun c6 => ?_) (fun c6 => ?_)
                · have c6 : ¬ (l5_34 % 3 = 1) := fun z => c6 ((nI_eq_ (a := l5_34 % 3) (b := 1) (by omega) (by omega)).mpr z)
                  refine vv_iconst (v := 0) hC dX9_areTwo_65 (by decide) ?_
                  have hz := hJ7
                  try simp only [if_neg c6] at hz
                  first | exact hz | (simp only [if_neg c6]; exact hz)
                · have c6 : l5_34 % 3 = 1 := (nI_eq_ (a := l5_34 % 3) (b := 1) (by omega) (by omega)).mp c6
                  refine vv_iconst (v := 1) hC dX9_areTwo_61 (by decide) ?_
                  refine vv_goto hC 66 dX9_areTwo_62 (by decide) ?_
                  have hz := hJ7
                  try simp only [if_pos c6] at hz
                  first | exact hz | (simp only [if_pos c6]; exact hz)
        refine vv_lv [3, 4, 5, 6, 2, 1, 0] rfl ?_
        refine hL9 6 0 (if 0 < tales k4 then true else false) p1 (f_X9_areTwo_L34 k4 6 0 (if 0 < tales k4 then true else false) p1) (by omega) (by omega) rfl ?_
        refine vv_iload_n hC 2 dX9_areTwo_94 rfl rfl ?_
        refine vv_iload hC 4 dX9_areTwo_95 rfl ?_
        have hJ11 : V g X 7 w0 0 0 105 [(0, .ref (B 0)), (1, .int (nI p1)), (2, .int l2_4), (3, .int (nI k4)), (4, .int (bI ((f_X9_areTwo_L34 k4 6 0 (if 0 < tales k4 then true else false) p1).1))), (5, .int (nI ((f_X9_areTwo_L34 k4 6 0 (if 0 < tales k4 then true else false) p1).2)))] [.int (bI (if (f_X9_areTwo_L34 k4 6 0 (if 0 < tales k4 then true else false) p1).1 = true then true else false)), .int l2_4] := by
          refine vv_iadd hC dX9_areTwo_105 ?_
          refine vv_istore_n (lv2 := [(2, .int (l2_4 + bI (if (f_X9_areTwo_L34 k4 6 0 (if 0 < tales k4 then true else false) p1).1 = true then true else false))), (0, .ref (B 0)), (1, .int (nI p1)), (3, .int (nI k4)), (4, .int (bI ((f_X9_areTwo_L34 k4 6 0 (if 0 < tales k4 then true else false) p1).1))), (5, .int (nI ((f_X9_areTwo_L34 k4 6 0 (if 0 < tales k4 then true else false) p1).2)))]) hC dX9_areTwo_106 rfl (by decide) rfl ?_
          refine vv_iinc (lv2 := [(3, .int (nI (k4 + 1))), (2, .int (l2_4 + bI (if (f_X9_areTwo_L34 k4 6 0 (if 0 < tales k4 then true else false) p1).1 = true then true else false))), (0, .ref (B 0)), (1, .int (nI p1)), (4, .int (bI ((f_X9_areTwo_L34 k4 6 0 (if 0 < tales k4 then true else false) p1).1))), (5, .int (nI ((f_X9_areTwo_L34 k4 6 0 (if 0 < tales k4 then true else false) p1).2)))]) hC 3 dX9_areTwo_107 rfl (nI_add k4 1) (by decide) rfl ?_
          refine vv_goto hC 4 dX9_areTwo_110 (by decide) ?_
          refine vv_lv [2, 3, 1, 0] rfl ?_
          exact ih (k4 + 1) (l2_4 + bI (if (f_X9_areTwo_L34 k4 6 0 (if 0 < tales k4 then true else false) p1).1 = true then true else false)) out (by omega) (ho.trans (by first | (simp only [f_X9_areTwo_L4]; done) | rfl | (simp only [f_X9_areTwo_L4]; rfl))) hk
        refine vv_if_eq hC 104 dX9_areTwo_97 (by decide) (fun c10 => ?_) (fun c10 => ?_)
        · have c10 : ¬ ((f_X9_areTwo_L34 k4 6 0 (if 0 < tales k4 then true else false) p1).1 = true) := bI_f c10
          refine vv_iconst (v := 0) hC dX9_areTwo_104 (by decide) ?_
          have hz := hJ11
          try simp only [if_neg c10] at hz
          first | exact hz | (simp only [if_neg c10]; exact hz)
        · have c10 : (f_X9_areTwo_L34 k4 6 0 (if 0 < tales k4 then true else false) p1).1 = true := bI_t c10
          refine vv_iconst (v := 1) hC dX9_areTwo_100 (by decide) ?_
          refine vv_goto hC 105 dX9_areTwo_101 (by decide) ?_
          have hz := hJ11
          try simp only [if_pos c10] at hz
          first | exact hz | (simp only [if_pos c10]; exact hz)
      refine vv_if_le hC 25 dX9_areTwo_18 (by decide) (fun c1 => ?_) (fun c1 => ?_)
      · have c1 : ¬ (0 < tales k4) := lc_le c1
        refine vv_iconst (v := 0) hC dX9_areTwo_25 (by decide) ?_
        have hz := hJ2
        try simp only [if_neg c1] at hz
        first | exact hz | (simp only [if_neg c1]; exact hz)
      · have c1 : 0 < tales k4 := lc_nle c1
        refine vv_iconst (v := 1) hC dX9_areTwo_21 (by decide) ?_
        refine vv_goto hC 26 dX9_areTwo_22 (by decide) ?_
        have hz := hJ2
        try simp only [if_pos c1] at hz
        first | exact hz | (simp only [if_pos c1]; exact hz)
  refine vv_lv [2, 3, 1, 0] rfl ?_
  refine hL12 64 0 0 (f_X9_areTwo_L4 tales p1 64 0 0) (by omega) rfl ?_
  refine vv_iload_n hC 2 dX9_areTwo_113 rfl rfl ?_
  refine vv_iconst (v := 1) hC dX9_areTwo_114 (by decide) ?_
  have hJ14 : V g X 7 w0 0 0 123 [(0, .ref (B 0)), (1, .int (nI p1)), (2, .int (f_X9_areTwo_L4 tales p1 64 0 0))] [.int (bI (if (f_X9_areTwo_L4 tales p1 64 0 0) ≤ 1 then false else true))] := by
    have hf : (f_X9_areTwo tales p1) = (if (f_X9_areTwo_L4 tales p1 64 0 0) ≤ 1 then false else true) := by first | (simp only [f_X9_areTwo]; done) | rfl | (simp only [f_X9_areTwo]; rfl)
    refine vv_zret hC hR rfl (bI_nar _) dX9_areTwo_123 (by omega) (by omega) ?_
    rw [hf]
    exact ⟨rfl, rfl⟩
  refine vv_icmp_le hC 122 dX9_areTwo_115 (by decide) (fun c13 => ?_) (fun c13 => ?_)
  · have c13 : (f_X9_areTwo_L4 tales p1 64 0 0) ≤ 1 := c13
    refine vv_iconst (v := 0) hC dX9_areTwo_122 (by decide) ?_
    have hz := hJ14
    try simp only [if_pos c13] at hz
    first | exact hz | (simp only [if_pos c13]; exact hz)
  · have c13 : ¬ ((f_X9_areTwo_L4 tales p1 64 0 0) ≤ 1) := c13
    refine vv_iconst (v := 1) hC dX9_areTwo_118 (by decide) ?_
    refine vv_goto hC 123 dX9_areTwo_119 (by decide) ?_
    have hz := hJ14
    try simp only [if_neg c13] at hz
    first | exact hz | (simp only [if_neg c13]; exact hz)
def f_X9_tests_x1 (r25 : Nat) (y_tests_25 : Nat → Int32) (l2_52 : Int32) (l3_52 : Nat) : Int32 := (if l2_52 ≤ (1 + (if (upd y_tests_25 r25 0) (r25 + l3_52) ≤ (upd y_tests_25 r25 0) (r25 + 2 * l3_52) then (upd y_tests_25 r25 0) (r25 + 2 * l3_52) else (upd y_tests_25 r25 0) (r25 + l3_52))) then l2_52 else (1 + (if (upd y_tests_25 r25 0) (r25 + l3_52) ≤ (upd y_tests_25 r25 0) (r25 + 2 * l3_52) then (upd y_tests_25 r25 0) (r25 + 2 * l3_52) else (upd y_tests_25 r25 0) (r25 + l3_52))))
def f_X9_tests_L52 (x_people : Nat) (now : Nat → Int32) (r25 : Nat) (y_tests_25 : Nat → Int32) : Nat → Nat → Int32 → Nat → Int32 × Nat
  | 0, k52, l2_52, l3_52 => (l2_52, l3_52)
  | r52 + 1, k52, l2_52, l3_52 => f_X9_tests_L52 x_people now r25 y_tests_25 r52 (k52 + 1) (if (r25 / l3_52) % 3 = 0 then (if x_people ≤ k52 then l2_52 else (if f_X9_isThere now k52 = true then (f_X9_tests_x1 r25 y_tests_25 l2_52 l3_52) else l2_52)) else l2_52) (l3_52 * 3)
def f_X9_tests_L25 (x_houses : Nat) (x_people : Nat) (x_sights : Nat) (now : Nat → Int32) (tales : Nat → Int64) (sight : Nat → Int32) (went : Nat → Int32) (path : Nat → Int32) (home : Nat → Int32) : Nat → (Nat → Int32) → (Nat → Int32)
  | 0, y_tests_25 => y_tests_25
  | r25 + 1, y_tests_25 => f_X9_tests_L25 x_houses x_people x_sights now tales sight went path home r25 (if f_X9_areTwo ((f_X9_layTales x_houses x_people x_sights now tales sight went path home).1) r25 = true then upd (upd y_tests_25 r25 0) r25 ((f_X9_tests_L52 x_people now r25 y_tests_25 6 0 99 1).1) else upd y_tests_25 r25 0)
def f_X9_tests (x_houses : Nat) (x_people : Nat) (x_sights : Nat) (now : Nat → Int32) (tales : Nat → Int64) (sight : Nat → Int32) (went : Nat → Int32) (path : Nat → Int32) (home : Nat → Int32) (tests : Nat → Int32) : Int32 × Int32 × (Nat → Int64) × (Nat → Int32) × (Nat → Int32) := (if f_X9_setsWith ((f_X9_layTales x_houses x_people x_sights now tales sight went path home).1) (-9) = 0 then ((-9), 0, (f_X9_layTales x_houses x_people x_sights now tales sight went path home).1, (f_X9_layTales x_houses x_people x_sights now tales sight went path home).2, tests) else ((f_X9_tests_L25 x_houses x_people x_sights now tales sight went path home 729 tests) 0, 0, (f_X9_layTales x_houses x_people x_sights now tales sight went path home).1, (f_X9_layTales x_houses x_people x_sights now tales sight went path home).2, (f_X9_tests_L25 x_houses x_people x_sights now tales sight went path home 729 tests)))
set_option maxHeartbeats 4000000 in
set_option maxRecDepth 100000 in
theorem c_X9_tests (g : GT) (w0 : Wd) (B : Nat → Nat) (hB : ∀ i j, i < 60 → j < 60 → B i = B j → i = j) (x_thrown : Int32) (x_houses : Nat) (x_people : Nat) (x_paths : Nat) (x_acts : Nat) (x_size : Nat) (x_at : Nat) (x_readHouses : Nat) (x_readPeople : Nat) (x_readPaths : Nat) (x_sights : Nat) (x_drawn : Int64) (now : Nat → Int32) (tales : Nat → Int64) (sight : Nat → Int32) (went : Nat → Int32) (path : Nat → Int32) (home : Nat → Int32) (tests : Nat → Int32) (hxp : x_people ≤ 6) (hxh : x_houses ≤ 4) (hom : ∀ q, q < 6 → home q = nI (tn (home q)) ∧ tn (home q) < 4) (hsi : x_sights ≤ 6) (hendW : ∀ (set moon : Int32) (w : Nat → Int32), f_X9_waysOf_L26_E x_houses x_people x_sights sight path home now set moon fuelW 0 true (f_X9_waysOf_L2 6 0 w) = true) (h_m : w0 (B 0) = some (.inr (9, cM B (x_thrown, x_houses, x_people, x_paths, x_acts, x_size, x_at, x_readHouses, x_readPeople, x_readPaths, x_sights, x_drawn)))) (h_now : w0 (B 7) = some (.inl (g.2.2.1 0, 43, .inl now))) (h_tales : w0 (B 25) = some (.inl (g.2.2.1 1, 64, .inr (.inl tales)))) (h_sight : w0 (B 22) = some (.inl (g.2.2.1 0, 24, .inl sight))) (h_went : w0 (B 24) = some (.inl (g.2.2.1 0, 6, .inl went))) (h_path : w0 (B 4) = some (.inl (g.2.2.1 0, 16, .inl path))) (h_home : w0 (B 5) = some (.inl (g.2.2.1 0, 6, .inl home))) (h_tests : w0 (B 26) = some (.inl (g.2.2.1 0, 729, .inl tests))) : CT g yX9_tests cX9_tests 6 (some .int) 5 122 0 0 w0 [.ref (B 0)] (fun r w2 => r = some (.int ((f_X9_tests x_houses x_people x_sights now tales sight went path home tests).1)) ∧ w2 (B 0) = some (.inr (9, cM B ((f_X9_tests x_houses x_people x_sights now tales sight went path home tests).2.1, x_houses, x_people, x_paths, x_acts, x_size, x_at, x_readHouses, x_readPeople, x_readPaths, x_sights, x_drawn))) ∧ w2 (B 25) = some (.inl (g.2.2.1 1, 64, .inr (.inl ((f_X9_tests x_houses x_people x_sights now tales sight went path home tests).2.2.1)))) ∧ w2 (B 24) = some (.inl (g.2.2.1 0, 6, .inl ((f_X9_tests x_houses x_people x_sights now tales sight went path home tests).2.2.2.1))) ∧ w2 (B 26) = some (.inl (g.2.2.1 0, 729, .inl ((f_X9_tests x_houses x_people x_sights now tales sight went path home tests).2.2.2.2))) ∧ wE (fun q => q = (B 0) ∨ q = (B 25) ∨ q = (B 24) ∨ q = (B 26)) w0 w2) := by
  refine CT.of (own := RX9) (by decide +kernel) rfl (Nat.le_of_ble_eq_true rfl) (fun X hC hR hI => ?_)
  show V g X 6 w0 0 0 0 [(0, .ref (B 0))] []
  have hE : wE (fun q => q = (B 0) ∨ q = (B 25) ∨ q = (B 24) ∨ q = (B 26)) w0 w0 := wE.refl
  refine vv_aload_n hC 0 dX9_tests_0 rfl rfl ?_
  refine vv_iconst (v := 0) hC dX9_tests_1 (by decide) ?_
  refine vv_put hC fp_X9_69 dX9_tests_2 h_m rfl rfl (Nat.le_of_ble_eq_true rfl) (fun w1 t1 hs => ?_)
  have t1 : w1 (B 0) = some (.inr (9, cM B (0, x_houses, x_people, x_paths, x_acts, x_size, x_at, x_readHouses, x_readPeople, x_readPaths, x_sights, x_drawn))) := t1.trans (congrArg (fun z => some (Sum.inr (9, z))) (eM_thrown _ _ _ _ _ _ _ _ _ _ _ _ _ _))
  have h_now := hs _ _ (fw_ao h_now h_m) h_now
  have h_tales := hs _ _ (fw_ao h_tales h_m) h_tales
  have h_sight := hs _ _ (fw_ao h_sight h_m) h_sight
  have h_went := hs _ _ (fw_ao h_went h_m) h_went
  have h_path := hs _ _ (fw_ao h_path h_m) h_path
  have h_home := hs _ _ (fw_ao h_home h_m) h_home
  have h_tests := hs _ _ (fw_ao h_tests h_m) h_tests
  have h_m := t1
  have hE := hE.trans (hs.mono (fun _ z => (Or.inl z)))
  refine vv_aload_n hC 0 dX9_tests_5 rfl rfl ?_
  refine vv_callV hC dX9_tests_6 md_X9_layTales lk_m_X9_228 lk_i_X9_layTales lk_s_X9_layTales h_m rfl (As := []) (rest := []) (c_X9_layTales g w1 B hB 0 x_houses x_people x_paths x_acts x_size x_at x_readHouses x_readPeople x_readPaths x_sights x_drawn now tales sight went path home (by omega) (by omega) (hom) (by omega) (hendW) h_m h_now h_tales h_sight h_went h_path h_home) rfl rfl (Nat.le_of_ble_eq_true rfl) ⟨by decide, by decide, by decide, by decide⟩ (fun r w9 hq => ?_)
  obtain ⟨rfl, t1, t2, hs⟩ := hq
  obtain ⟨w2, rfl⟩ : ∃ z, z = w9 := ⟨_, rfl⟩
  have h_m := hs _ _ (fun z => z.elim (fw_oa h_m h_tales) (fw_oa h_m h_went)) h_m
  have h_now := hs _ _ (fun z => z.elim (fw_inj hB (by decide) (by decide) (by decide)) (fw_inj hB (by decide) (by decide) (by decide))) h_now
  have h_sight := hs _ _ (fun z => z.elim (fw_inj hB (by decide) (by decide) (by decide)) (fw_inj hB (by decide) (by decide) (by decide))) h_sight
  have h_path := hs _ _ (fun z => z.elim (fw_inj hB (by decide) (by decide) (by decide)) (fw_inj hB (by decide) (by decide) (by decide))) h_path
  have h_home := hs _ _ (fun z => z.elim (fw_inj hB (by decide) (by decide) (by decide)) (fw_inj hB (by decide) (by decide) (by decide))) h_home
  have h_tests := hs _ _ (fun z => z.elim (fw_inj hB (by decide) (by decide) (by decide)) (fw_inj hB (by decide) (by decide) (by decide))) h_tests
  have h_tales := t1
  have h_went := t2
  have hE := hE.trans (hs.mono (fun _ z => z.elim (fun z => (Or.inr (Or.inl z))) (fun z => (Or.inr (Or.inr (Or.inl z))))))
  show V g X 6 w2 0 0 9 [(0, .ref (B 0))] []
  refine vv_aload_n hC 0 dX9_tests_9 rfl rfl ?_
  refine vv_bipush (v := (-9)) hC dX9_tests_10 (by decide) ?_
  refine vv_callV hC dX9_tests_12 md_X9_setsWith lk_m_X9_231 lk_i_X9_setsWith lk_s_X9_setsWith h_m rfl (As := [.int (-9)]) (rest := []) (c_X9_setsWith g w2 B hB 0 x_houses x_people x_paths x_acts x_size x_at x_readHouses x_readPeople x_readPaths x_sights x_drawn ((f_X9_layTales x_houses x_people x_sights now tales sight went path home).1) (-9) h_m h_tales) rfl rfl (Nat.le_of_ble_eq_true rfl) ⟨by decide, by decide, by decide, by decide⟩ (fun r w9 hq => ?_)
  obtain ⟨rfl, rfl⟩ := hq
  show V g X 6 w2 0 0 15 [(0, .ref (B 0))] [.int (f_X9_setsWith ((f_X9_layTales x_houses x_people x_sights now tales sight went path home).1) (-9))]
  refine vv_if_ne hC 21 dX9_tests_15 (by decide) (fun c3 => ?_) (fun c3 => ?_)
  · have c3 : ¬ (f_X9_setsWith ((f_X9_layTales x_houses x_people x_sights now tales sight went path home).1) (-9) = 0) := c3
    refine vv_sipush (v := (728)) hC dX9_tests_21 (by decide) ?_
    refine vv_istore_n (lv2 := [(1, .int 728), (0, .ref (B 0))]) hC dX9_tests_24 rfl (by decide) rfl ?_
    have hL20 : ∀ (r25 : Nat) (y_tests_25 : Nat → Int32) (w4 : Wd) (out : (Nat → Int32)), r25 ≤ 729 → out = f_X9_tests_L25 x_houses x_people x_sights now tales sight went path home r25 y_tests_25 → w4 (B 0) = some (.inr (9, cM B (0, x_houses, x_people, x_paths, x_acts, x_size, x_at, x_readHouses, x_readPeople, x_readPaths, x_sights, x_drawn))) → w4 (B 7) = some (.inl (g.2.2.1 0, 43, .inl now)) → w4 (B 25) = some (.inl (g.2.2.1 1, 64, .inr (.inl ((f_X9_layTales x_houses x_people x_sights now tales sight went path home).1)))) → w4 (B 22) = some (.inl (g.2.2.1 0, 24, .inl sight)) → w4 (B 24) = some (.inl (g.2.2.1 0, 6, .inl ((f_X9_layTales x_houses x_people x_sights now tales sight went path home).2))) → w4 (B 4) = some (.inl (g.2.2.1 0, 16, .inl path)) → w4 (B 5) = some (.inl (g.2.2.1 0, 6, .inl home)) → w4 (B 26) = some (.inl (g.2.2.1 0, 729, .inl y_tests_25)) → wE (fun q => q = (B 0) ∨ q = (B 25) ∨ q = (B 24) ∨ q = (B 26)) w0 w4 → (∀ w19 : Wd, w19 (B 0) = some (.inr (9, cM B (0, x_houses, x_people, x_paths, x_acts, x_size, x_at, x_readHouses, x_readPeople, x_readPaths, x_sights, x_drawn))) → w19 (B 7) = some (.inl (g.2.2.1 0, 43, .inl now)) → w19 (B 25) = some (.inl (g.2.2.1 1, 64, .inr (.inl ((f_X9_layTales x_houses x_people x_sights now tales sight went path home).1)))) → w19 (B 22) = some (.inl (g.2.2.1 0, 24, .inl sight)) → w19 (B 24) = some (.inl (g.2.2.1 0, 6, .inl ((f_X9_layTales x_houses x_people x_sights now tales sight went path home).2))) → w19 (B 4) = some (.inl (g.2.2.1 0, 16, .inl path)) → w19 (B 5) = some (.inl (g.2.2.1 0, 6, .inl home)) → w19 (B 26) = some (.inl (g.2.2.1 0, 729, .inl out)) → wE (fun q => q = (B 0) ∨ q = (B 25) ∨ q = (B 24) ∨ q = (B 26)) w0 w19 → V g X 6 w19 0 0 169 [(0, .ref (B 0))] []) → V g X 6 w4 0 0 25 [(0, .ref (B 0)), (1, .int (nI r25 - 1))] [] := by
      intro r25
      induction r25 with
      | zero =>
        intro y_tests_25 w4 out hr ho h_m h_now h_tales h_sight h_went h_path h_home h_tests hE hk
        refine vv_iload_n hC 1 dX9_tests_25 rfl rfl ?_
        refine vv_if_lt hC 169 dX9_tests_26 (by decide) (fun c => ?_) (fun c => absurd (c) (by first | omega | decide))
        refine vv_lv [0] rfl ?_
        have ho := ho.trans (by first | (simp only [f_X9_tests_L25]; done) | rfl | (simp only [f_X9_tests_L25]; rfl) : _ = y_tests_25)
        subst ho
        exact hk w4 h_m h_now h_tales h_sight h_went h_path h_home h_tests hE
      | succ r25 ih =>
        intro y_tests_25 w4 out hr ho h_m h_now h_tales h_sight h_went h_path h_home h_tests hE hk
        rw [nI_pred]
        refine vv_iload_n hC 1 dX9_tests_25 rfl rfl ?_
        refine vv_if_lt hC 169 dX9_tests_26 (by decide) (fun c => absurd c (nI_neg (by omega))) (fun _ => ?_)
        refine vv_aload_n hC 0 dX9_tests_29 rfl rfl ?_
        refine vv_get (v := .ref (B 26)) hC fl_X9_57 dX9_tests_30 h_m rfl ?_
        refine vv_iload_n hC 1 dX9_tests_33 rfl rfl ?_
        refine vv_iconst (v := 0) hC dX9_tests_34 (by decide) ?_
        refine vv_iastn (t := r25) hC dX9_tests_35 h_tests (by omega) (by decide) (fun w5 t1 hs => ?_)
        have t1 : w5 (B 26) = some (.inl (g.2.2.1 0, 729, .inl (upd y_tests_25 r25 0))) := t1
        have h_m := hs _ _ (fw_oa h_m h_tests) h_m
        have h_now := hs _ _ (fw_inj hB (by decide) (by decide) (by decide)) h_now
        have h_tales := hs _ _ (fw_inj hB (by decide) (by decide) (by decide)) h_tales
        have h_sight := hs _ _ (fw_inj hB (by decide) (by decide) (by decide)) h_sight
        have h_went := hs _ _ (fw_inj hB (by decide) (by decide) (by decide)) h_went
        have h_path := hs _ _ (fw_inj hB (by decide) (by decide) (by decide)) h_path
        have h_home := hs _ _ (fw_inj hB (by decide) (by decide) (by decide)) h_home
        have h_tests := t1
        have hE := hE.trans (hs.mono (fun _ z => (Or.inr (Or.inr (Or.inr z)))))
        refine vv_aload_n hC 0 dX9_tests_36 rfl rfl ?_
        refine vv_iload_n hC 1 dX9_tests_37 rfl rfl ?_
        refine vv_callV hC dX9_tests_38 md_X9_areTwo lk_m_X9_245 lk_i_X9_areTwo lk_s_X9_areTwo h_m rfl (As := [.int (nI r25)]) (rest := []) (c_X9_areTwo g w5 B hB 0 x_houses x_people x_paths x_acts x_size x_at x_readHouses x_readPeople x_readPaths x_sights x_drawn ((f_X9_layTales x_houses x_people x_sights now tales sight went path home).1) r25 (by omega) h_m h_tales) rfl rfl (Nat.le_of_ble_eq_true rfl) ⟨by decide, by decide, by decide, by decide⟩ (fun r w9 hq => ?_)
        obtain ⟨rfl, rfl⟩ := hq
        show V g X 6 w5 0 0 41 [(0, .ref (B 0)), (1, .int (nI r25))] [.int (bI (f_X9_areTwo ((f_X9_layTales x_houses x_people x_sights now tales sight went path home).1) r25))]
        have hJ7 : ∀ w18 : Wd, w18 (B 0) = some (.inr (9, cM B (0, x_houses, x_people, x_paths, x_acts, x_size, x_at, x_readHouses, x_readPeople, x_readPaths, x_sights, x_drawn))) → w18 (B 7) = some (.inl (g.2.2.1 0, 43, .inl now)) → w18 (B 25) = some (.inl (g.2.2.1 1, 64, .inr (.inl ((f_X9_layTales x_houses x_people x_sights now tales sight went path home).1)))) → w18 (B 22) = some (.inl (g.2.2.1 0, 24, .inl sight)) → w18 (B 24) = some (.inl (g.2.2.1 0, 6, .inl ((f_X9_layTales x_houses x_people x_sights now tales sight went path home).2))) → w18 (B 4) = some (.inl (g.2.2.1 0, 16, .inl path)) → w18 (B 5) = some (.inl (g.2.2.1 0, 6, .inl home)) → w18 (B 26) = some (.inl (g.2.2.1 0, 729, .inl (if f_X9_areTwo ((f_X9_layTales x_houses x_people x_sights now tales sight went path home).1) r25 = true then upd (upd y_tests_25 r25 0) r25 ((f_X9_tests_L52 x_people now r25 y_tests_25 6 0 99 1).1) else upd y_tests_25 r25 0))) → wE (fun q => q = (B 0) ∨ q = (B 25) ∨ q = (B 24) ∨ q = (B 26)) w0 w18 → V g X 6 w18 0 0 163 [(0, .ref (B 0)), (1, .int (nI r25))] [] := by
          intro w18 h_m h_now h_tales h_sight h_went h_path h_home h_tests hE
          refine vv_iinc (lv2 := [(1, .int (nI r25 - 1)), (0, .ref (B 0))]) hC 1 dX9_tests_163 rfl (i32_m1 _) (by decide) rfl ?_
          refine vv_goto hC 25 dX9_tests_166 (by decide) ?_
          refine vv_lv [1, 0] rfl ?_
          exact ih (if f_X9_areTwo ((f_X9_layTales x_houses x_people x_sights now tales sight went path home).1) r25 = true then upd (upd y_tests_25 r25 0) r25 ((f_X9_tests_L52 x_people now r25 y_tests_25 6 0 99 1).1) else upd y_tests_25 r25 0) w18 out (by omega) (ho.trans (by first | (simp only [f_X9_tests_L25]; done) | rfl | (simp only [f_X9_tests_L25]; rfl))) h_m h_now h_tales h_sight h_went h_path h_home h_tests hE hk
        refine vv_if_eq hC 163 dX9_tests_41 (by decide) (fun c6 => ?_) (fun c6 => ?_)
        · have c6 : ¬ (f_X9_areTwo ((f_X9_layTales x_houses x_people x_sights now tales sight went path home).1) r25 = true) := bI_f c6
          have hz := hJ7 w5
          try simp only [if_neg c6] at hz
          first | exact hz h_m h_now h_tales h_sight h_went h_path h_home h_tests hE | (simp only [if_neg c6]; exact hz h_m h_now h_tales h_sight h_went h_path h_home h_tests hE)
        · have c6 : f_X9_areTwo ((f_X9_layTales x_houses x_people x_sights now tales sight went path home).1) r25 = true := bI_t c6
          refine vv_bipush (v := (99)) hC dX9_tests_44 (by decide) ?_
          refine vv_istore_n (lv2 := [(2, .int 99), (0, .ref (B 0)), (1, .int (nI r25))]) hC dX9_tests_46 rfl (by decide) rfl ?_
          refine vv_iconst (v := 1) hC dX9_tests_47 (by decide) ?_
          refine vv_istore_n (lv2 := [(3, .int 1), (2, .int 99), (0, .ref (B 0)), (1, .int (nI r25))]) hC dX9_tests_48 rfl (by decide) rfl ?_
          refine vv_iconst (v := 0) hC dX9_tests_49 (by decide) ?_
          refine vv_istore (lv2 := [(4, .int 0), (3, .int 1), (2, .int 99), (0, .ref (B 0)), (1, .int (nI r25))]) hC dX9_tests_50 (by decide) rfl ?_
          have hL16 : ∀ (r52 k52 : Nat) (l2_52 : Int32) (l3_52 : Nat) (out : Int32 × Nat), k52 + r52 = 6 → l3_52 = 3 ^ k52 → out = f_X9_tests_L52 x_people now r25 y_tests_25 r52 k52 l2_52 l3_52 → V g X 6 w5 0 0 156 [(0, .ref (B 0)), (1, .int (nI r25)), (2, .int out.1), (3, .int (nI out.2))] [] → V g X 6 w5 0 0 52 [(0, .ref (B 0)), (1, .int (nI r25)), (2, .int l2_52), (3, .int (nI l3_52)), (4, .int (nI k52))] [] := by
            intro r52
            induction r52 with
            | zero =>
              intro k52 l2_52 l3_52 out hb hby ho hk
              refine vv_iload hC 4 dX9_tests_52 rfl ?_
              refine vv_bipush (v := (6)) hC dX9_tests_54 (by decide) ?_
              refine vv_icmp_ge hC 156 dX9_tests_56 (by decide) (fun c => ?_) (fun c => False.elim (c ((nI_le_ (a := 6) (b := k52) (by omega) (by omega)).mpr (by omega))))
              refine vv_lv [0, 1, 2, 3] rfl ?_
              have ho := ho.trans (by first | (simp only [f_X9_tests_L52]; done) | rfl | (simp only [f_X9_tests_L52]; rfl) : _ = (l2_52, l3_52))
              subst ho
              exact hk
            | succ r52 ih =>
              intro k52 l2_52 l3_52 out hb hby ho hk
              refine vv_iload hC 4 dX9_tests_52 rfl ?_
              refine vv_bipush (v := (6)) hC dX9_tests_54 (by decide) ?_
              refine vv_icmp_ge hC 156 dX9_tests_56 (by decide) (fun c => absurd ((nI_le_ (a := 6) (b := k52) (by omega) (by omega)).mp c) (by first | omega | decide)) (fun c => ?_)
              have hb0 := p3_b (by omega) hby
              have hdv : r25 / l3_52 ≤ r25 := Nat.div_le_self _ _
              refine vv_iload_n hC 1 dX9_tests_59 rfl rfl ?_
              refine vv_iload_n hC 3 dX9_tests_60 rfl rfl ?_
              refine vv_idiv hC dX9_tests_61 (nI_ne0_ (by omega) (by omega)) ?_
              refine vv_topi (nI (r25 / l3_52)) (nI_div (a := r25) (d := l3_52) (by omega) (by omega) (by omega)) ?_
              refine vv_iconst (v := 3) hC dX9_tests_62 (by decide) ?_
              refine vv_irem hC dX9_tests_63 (by decide) ?_
              refine vv_topi (nI ((r25 / l3_52) % 3)) (nI_rem (a := r25 / l3_52) (d := 3) (by omega) (by omega) (by omega)) ?_
              have hJ9 : V g X 6 w5 0 0 146 [(0, .ref (B 0)), (1, .int (nI r25)), (2, .int (if (r25 / l3_52) % 3 = 0 then (if x_people ≤ k52 then l2_52 else (if f_X9_isThere now k52 = true then (f_X9_tests_x1 r25 y_tests_25 l2_52 l3_52) else l2_52)) else l2_52)), (3, .int (nI l3_52)), (4, .int (nI k52))] [] := by
                refine vv_iload_n hC 3 dX9_tests_146 rfl rfl ?_
                refine vv_iconst (v := 3) hC dX9_tests_147 (by decide) ?_
                refine vv_imul hC dX9_tests_148 ?_
                refine vv_topi (nI (l3_52 * 3)) (pk_mul l3_52 3) ?_
                refine vv_istore_n (lv2 := [(3, .int (nI (l3_52 * 3))), (0, .ref (B 0)), (1, .int (nI r25)), (2, .int (if (r25 / l3_52) % 3 = 0 then (if x_people ≤ k52 then l2_52 else (if f_X9_isThere now k52 = true then (f_X9_tests_x1 r25 y_tests_25 l2_52 l3_52) else l2_52)) else l2_52)), (4, .int (nI k52))]) hC dX9_tests_149 rfl (by decide) rfl ?_
                refine vv_iinc (lv2 := [(4, .int (nI (k52 + 1))), (3, .int (nI (l3_52 * 3))), (0, .ref (B 0)), (1, .int (nI r25)), (2, .int (if (r25 / l3_52) % 3 = 0 then (if x_people ≤ k52 then l2_52 else (if f_X9_isThere now k52 = true then (f_X9_tests_x1 r25 y_tests_25 l2_52 l3_52) else l2_52)) else l2_52))]) hC 4 dX9_tests_150 rfl (nI_add k52 1) (by decide) rfl ?_
                refine vv_goto hC 52 dX9_tests_153 (by decide) ?_
                refine vv_lv [2, 3, 4, 1, 0] rfl ?_
                exact ih (k52 + 1) (if (r25 / l3_52) % 3 = 0 then (if x_people ≤ k52 then l2_52 else (if f_X9_isThere now k52 = true then (f_X9_tests_x1 r25 y_tests_25 l2_52 l3_52) else l2_52)) else l2_52) (l3_52 * 3) out (by omega) (by rw [hby, Nat.pow_succ]) (ho.trans (by first | (simp only [f_X9_tests_L52]; done) | rfl | (simp only [f_X9_tests_L52]; rfl))) hk
              refine vv_if_ne hC 146 dX9_tests_64 (by decide) (fun c8 => ?_) (fun c8 => ?_)
              · have c8 : ¬ ((r25 / l3_52) % 3 = 0) := fun z => c8 ((nI_eq_ (a := (r25 / l3_52) % 3) (b := 0) (by omega) (by omega)).mpr z)
                have hz := hJ9
                try simp only [if_neg c8] at hz
                first | exact hz | (simp only [if_neg c8]; exact hz)
              · have c8 : (r25 / l3_52) % 3 = 0 := (nI_eq_ (a := (r25 / l3_52) % 3) (b := 0) (by omega) (by omega)).mp c8
                refine vv_iload hC 4 dX9_tests_67 rfl ?_
                refine vv_aload_n hC 0 dX9_tests_69 rfl rfl ?_
                refine vv_get (v := .int (nI x_people)) hC fl_X9_80 dX9_tests_70 h_m rfl ?_
                refine vv_icmp_ge hC 146 dX9_tests_73 (by decide) (fun c10 => ?_) (fun c10 => ?_)
                · have c10 : x_people ≤ k52 := (nI_le_ (a := x_people) (b := k52) (by omega) (by omega)).mp c10
                  have hz := hJ9
                  try simp only [if_pos c8, if_pos c10] at hz
                  first | exact hz | (simp only [if_pos c8, if_pos c10]; exact hz)
                · have c10 : ¬ (x_people ≤ k52) := fun z => c10 ((nI_le_ (a := x_people) (b := k52) (by omega) (by omega)).mpr z)
                  refine vv_aload_n hC 0 dX9_tests_76 rfl rfl ?_
                  refine vv_iload hC 4 dX9_tests_77 rfl ?_
                  refine vv_callV hC dX9_tests_79 md_X9_isThere lk_m_X9_87 lk_i_X9_isThere lk_s_X9_isThere h_m rfl (As := [.int (nI k52)]) (rest := []) (c_X9_isThere g w5 B hB 0 x_houses x_people x_paths x_acts x_size x_at x_readHouses x_readPeople x_readPaths x_sights x_drawn now k52 (by omega) h_m h_now) rfl rfl (Nat.le_of_ble_eq_true rfl) ⟨by decide, by decide, by decide, by decide⟩ (fun r w9 hq => ?_)
                  obtain ⟨rfl, rfl⟩ := hq
                  show V g X 6 w5 0 0 82 [(0, .ref (B 0)), (1, .int (nI r25)), (2, .int l2_52), (3, .int (nI l3_52)), (4, .int (nI k52))] [.int (bI (f_X9_isThere now k52))]
                  refine vv_if_eq hC 146 dX9_tests_82 (by decide) (fun c11 => ?_) (fun c11 => ?_)
                  · have c11 : ¬ (f_X9_isThere now k52 = true) := bI_f c11
                    have hz := hJ9
                    try simp only [if_pos c8, if_neg c10, if_neg c11] at hz
                    first | exact hz | (simp only [if_pos c8, if_neg c10, if_neg c11]; exact hz)
                  · have c11 : f_X9_isThere now k52 = true := bI_t c11
                    refine vv_aload_n hC 0 dX9_tests_85 rfl rfl ?_
                    have hix := p3_ix (by omega) hby (by omega) c8
                    refine vv_get (v := .ref (B 26)) hC fl_X9_57 dX9_tests_86 h_m rfl ?_
                    refine vv_iload_n hC 1 dX9_tests_89 rfl rfl ?_
                    refine vv_iload_n hC 3 dX9_tests_90 rfl rfl ?_
                    refine vv_iadd hC dX9_tests_91 ?_
                    refine vv_topi (nI (r25 + l3_52)) (nI_add r25 l3_52) ?_
                    refine vv_ialdn (t := r25 + l3_52) hC dX9_tests_92 h_tests (by omega) (by decide) ?_
                    refine vv_aload_n hC 0 dX9_tests_93 rfl rfl ?_
                    refine vv_get (v := .ref (B 26)) hC fl_X9_57 dX9_tests_94 h_m rfl ?_
                    refine vv_iload_n hC 1 dX9_tests_97 rfl rfl ?_
                    refine vv_iconst (v := 2) hC dX9_tests_98 (by decide) ?_
                    refine vv_iload_n hC 3 dX9_tests_99 rfl rfl ?_
                    refine vv_imul hC dX9_tests_100 ?_
                    refine vv_topi (nI (2 * l3_52)) (pk_mul 2 l3_52) ?_
                    refine vv_iadd hC dX9_tests_101 ?_
                    refine vv_topi (nI (r25 + 2 * l3_52)) (nI_add r25 (2 * l3_52)) ?_
                    refine vv_ialdn (t := r25 + 2 * l3_52) hC dX9_tests_102 h_tests (by omega) (by decide) ?_
                    have hJ13 : V g X 6 w5 0 0 127 [(0, .ref (B 0)), (1, .int (nI r25)), (2, .int l2_52), (3, .int (nI l3_52)), (4, .int (nI k52))] [.int (if (upd y_tests_25 r25 0) (r25 + l3_52) ≤ (upd y_tests_25 r25 0) (r25 + 2 * l3_52) then (upd y_tests_25 r25 0) (r25 + 2 * l3_52) else (upd y_tests_25 r25 0) (r25 + l3_52))] := by
                      refine vv_istore (lv2 := [(5, .int (if (upd y_tests_25 r25 0) (r25 + l3_52) ≤ (upd y_tests_25 r25 0) (r25 + 2 * l3_52) then (upd y_tests_25 r25 0) (r25 + 2 * l3_52) else (upd y_tests_25 r25 0) (r25 + l3_52))), (0, .ref (B 0)), (1, .int (nI r25)), (2, .int l2_52), (3, .int (nI l3_52)), (4, .int (nI k52))]) hC dX9_tests_127 (by decide) rfl ?_
                      refine vv_iconst (v := 1) hC dX9_tests_129 (by decide) ?_
                      refine vv_iload hC 0 dX9_tests_130 rfl ?_
                      refine vv_iadd hC dX9_tests_132 ?_
                      refine vv_iload_n hC 3 dX9_tests_133 rfl rfl ?_
                      have hJ15 : V g X 6 w5 0 0 145 [(0, .ref (B 0)), (1, .int (nI r25)), (2, .int l2_52), (3, .int (nI l3_52)), (4, .int (nI k52)), (5, .int (if (upd y_tests_25 r25 0) (r25 + l3_52) ≤ (upd y_tests_25 r25 0) (r25 + 2 * l3_52) then (upd y_tests_25 r25 0) (r25 + 2 * l3_52) else (upd y_tests_25 r25 0) (r25 + l3_52)))] [.int (f_X9_tests_x1 r25 y_tests_25 l2_52 l3_52)] := by
                        refine vv_istore_n (lv2 := [(2, .int (f_X9_tests_x1 r25 y_tests_25 l2_52 l3_52)), (0, .ref (B 0)), (1, .int (nI r25)), (3, .int (nI l3_52)), (4, .int (nI k52)), (5, .int (if (upd y_tests_25 r25 0) (r25 + l3_52) ≤ (upd y_tests_25 r25 0) (r25 + 2 * l3_52) then (upd y_tests_25 r25 0) (r25 + 2 * l3_52) else (upd y_tests_25 r25 0) (r25 + l3_52)))]) hC dX9_tests_145 rfl (by decide) rfl ?_
                        refine vv_lv [1, 2, 0, 3, 4] rfl ?_
                        have hz := hJ9
                        try simp only [if_pos c8, if_neg c10, if_pos c11] at hz
                        first | exact hz | (simp only [if_pos c8, if_neg c10, if_pos c11]; exact hz)
                      refine vv_icmp_ge hC 144 dX9_tests_134 (by decide) (fun c14 => ?_) (fun c14 => ?_)
                      · have c14 : l2_52 ≤ (1 + (if (upd y_tests_25 r25 0) (r25 + l3_52) ≤ (upd y_tests_25 r25 0) (r25 + 2 * l3_52) then (upd y_tests_25 r25 0) (r25 + 2 * l3_52) else (upd y_tests_25 r25 0) (r25 + l3_52))) := c14
                        refine vv_iload_n hC 3 dX9_tests_144 rfl rfl ?_
                        refine vv_lv [1, 2, 3, 4, 5, 0] rfl ?_
                        have hz := hJ15
                        try simp only [f_X9_tests_x1, if_pos c14] at hz
                        first | exact hz | (simp only [f_X9_tests_x1, if_pos c14]; exact hz)
                      · have c14 : ¬ (l2_52 ≤ (1 + (if (upd y_tests_25 r25 0) (r25 + l3_52) ≤ (upd y_tests_25 r25 0) (r25 + 2 * l3_52) then (upd y_tests_25 r25 0) (r25 + 2 * l3_52) else (upd y_tests_25 r25 0) (r25 + l3_52)))) := c14
                        refine vv_iconst (v := 1) hC dX9_tests_137 (by decide) ?_
                        refine vv_iload hC 0 dX9_tests_138 rfl ?_
                        refine vv_iadd hC dX9_tests_140 ?_
                        refine vv_goto hC 145 dX9_tests_141 (by decide) ?_
                        refine vv_lv [1, 2, 3, 4, 5, 0] rfl ?_
                        have hz := hJ15
                        try simp only [f_X9_tests_x1, if_neg c14] at hz
                        first | exact hz | (simp only [f_X9_tests_x1, if_neg c14]; exact hz)
                    refine vv_icmp_le hC 117 dX9_tests_103 (by decide) (fun c12 => ?_) (fun c12 => ?_)
                    · have c12 : (upd y_tests_25 r25 0) (r25 + l3_52) ≤ (upd y_tests_25 r25 0) (r25 + 2 * l3_52) := c12
                      refine vv_aload_n hC 0 dX9_tests_117 rfl rfl ?_
                      refine vv_get (v := .ref (B 26)) hC fl_X9_57 dX9_tests_118 h_m rfl ?_
                      refine vv_iload_n hC 1 dX9_tests_121 rfl rfl ?_
                      refine vv_iconst (v := 2) hC dX9_tests_122 (by decide) ?_
                      refine vv_iload_n hC 3 dX9_tests_123 rfl rfl ?_
                      refine vv_imul hC dX9_tests_124 ?_
                      refine vv_topi (nI (2 * l3_52)) (pk_mul 2 l3_52) ?_
                      refine vv_iadd hC dX9_tests_125 ?_
                      refine vv_topi (nI (r25 + 2 * l3_52)) (nI_add r25 (2 * l3_52)) ?_
                      refine vv_ialdn (t := r25 + 2 * l3_52) hC dX9_tests_126 h_tests (by omega) (by decide) ?_
                      have hz := hJ13
                      try simp only [if_pos c12] at hz
                      first | exact hz | (simp only [if_pos c12]; exact hz)
                    · have c12 : ¬ ((upd y_tests_25 r25 0) (r25 + l3_52) ≤ (upd y_tests_25 r25 0) (r25 + 2 * l3_52)) := c12
                      refine vv_aload_n hC 0 dX9_tests_106 rfl rfl ?_
                      refine vv_get (v := .ref (B 26)) hC fl_X9_57 dX9_tests_107 h_m rfl ?_
                      refine vv_iload_n hC 1 dX9_tests_110 rfl rfl ?_
                      refine vv_iload_n hC 3 dX9_tests_111 rfl rfl ?_
                      refine vv_iadd hC dX9_tests_112 ?_
                      refine vv_topi (nI (r25 + l3_52)) (nI_add r25 l3_52) ?_
                      refine vv_ialdn (t := r25 + l3_52) hC dX9_tests_113 h_tests (by omega) (by decide) ?_
                      refine vv_goto hC 127 dX9_tests_114 (by decide) ?_
                      have hz := hJ13
                      try simp only [if_neg c12] at hz
                      first | exact hz | (simp only [if_neg c12]; exact hz)
          refine vv_lv [3, 4, 2, 1, 0] rfl ?_
          refine hL16 6 0 99 1 (f_X9_tests_L52 x_people now r25 y_tests_25 6 0 99 1) (by omega) (rfl) rfl ?_
          refine vv_aload_n hC 0 dX9_tests_156 rfl rfl ?_
          refine vv_get (v := .ref (B 26)) hC fl_X9_57 dX9_tests_157 h_m rfl ?_
          refine vv_iload_n hC 1 dX9_tests_160 rfl rfl ?_
          refine vv_iload_n hC 2 dX9_tests_161 rfl rfl ?_
          refine vv_iastn (t := r25) hC dX9_tests_162 h_tests (by omega) (by decide) (fun w17 t1 hs => ?_)
          have t1 : w17 (B 26) = some (.inl (g.2.2.1 0, 729, .inl (upd (upd y_tests_25 r25 0) r25 ((f_X9_tests_L52 x_people now r25 y_tests_25 6 0 99 1).1)))) := t1
          have h_m := hs _ _ (fw_oa h_m h_tests) h_m
          have h_now := hs _ _ (fw_inj hB (by decide) (by decide) (by decide)) h_now
          have h_tales := hs _ _ (fw_inj hB (by decide) (by decide) (by decide)) h_tales
          have h_sight := hs _ _ (fw_inj hB (by decide) (by decide) (by decide)) h_sight
          have h_went := hs _ _ (fw_inj hB (by decide) (by decide) (by decide)) h_went
          have h_path := hs _ _ (fw_inj hB (by decide) (by decide) (by decide)) h_path
          have h_home := hs _ _ (fw_inj hB (by decide) (by decide) (by decide)) h_home
          have h_tests := t1
          have hE := hE.trans (hs.mono (fun _ z => (Or.inr (Or.inr (Or.inr z)))))
          refine vv_lv [0, 1] rfl ?_
          have hz := hJ7 w17
          try simp only [if_pos c6] at hz
          first | exact hz h_m h_now h_tales h_sight h_went h_path h_home h_tests hE | (simp only [if_pos c6]; exact hz h_m h_now h_tales h_sight h_went h_path h_home h_tests hE)
    refine vv_lv [1, 0] rfl ?_
    refine hL20 729 tests w2 (f_X9_tests_L25 x_houses x_people x_sights now tales sight went path home 729 tests) (by omega) rfl h_m h_now h_tales h_sight h_went h_path h_home h_tests hE ?_
    intro w19 h_m h_now h_tales h_sight h_went h_path h_home h_tests hE
    refine vv_aload_n hC 0 dX9_tests_169 rfl rfl ?_
    refine vv_get (v := .ref (B 26)) hC fl_X9_57 dX9_tests_170 h_m rfl ?_
    refine vv_iconst (v := 0) hC dX9_tests_173 (by decide) ?_
    refine vv_ialdn (t := 0) hC dX9_tests_174 h_tests (by omega) (by decide) ?_
    have hf : (f_X9_tests x_houses x_people x_sights now tales sight went path home tests) = ((f_X9_tests_L25 x_houses x_people x_sights now tales sight went path home 729 tests) 0, 0, (f_X9_layTales x_houses x_people x_sights now tales sight went path home).1, (f_X9_layTales x_houses x_people x_sights now tales sight went path home).2, (f_X9_tests_L25 x_houses x_people x_sights now tales sight went path home 729 tests)) := by first | (simp only [f_X9_tests, if_neg c3]; done) | rfl | (simp only [f_X9_tests, if_neg c3]; rfl)
    refine vv_iret hC hR rfl dX9_tests_175 (by omega) (by omega) ?_
    rw [hf]
    try dsimp only
    exact ⟨rfl, h_m, h_tales, h_went, h_tests, hE⟩
  · have c3 : f_X9_setsWith ((f_X9_layTales x_houses x_people x_sights now tales sight went path home).1) (-9) = 0 := c3
    refine vv_bipush (v := (-9)) hC dX9_tests_18 (by decide) ?_
    have hf : (f_X9_tests x_houses x_people x_sights now tales sight went path home tests) = ((-9), 0, (f_X9_layTales x_houses x_people x_sights now tales sight went path home).1, (f_X9_layTales x_houses x_people x_sights now tales sight went path home).2, tests) := by first | (simp only [f_X9_tests, if_pos c3]; done) | rfl | (simp only [f_X9_tests, if_pos c3]; rfl)
    refine vv_iret hC hR rfl dX9_tests_20 (by omega) (by omega) ?_
    rw [hf]
    try dsimp only
    exact ⟨rfl, h_m, h_tales, h_went, h_tests, hE⟩
