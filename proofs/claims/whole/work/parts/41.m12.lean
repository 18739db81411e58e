def f_X9_goesBy_x1 (x_houses : Nat) (x_people : Nat) (home : Nat → Int32) (path : Nat → Int32) (kin : Nat → Int32) (k7 : Nat) (l2_7 : Nat) (y_now_7 : Nat → Int32) : Nat → Int32 := (if tn (f_X9_bits (f_X9_mayOf x_houses y_now_7 home path k7)) = 0 then y_now_7 else (f_X9_visits x_people y_now_7 home kin path k7 (tn (f_X9_placeOf (f_X9_mayOf x_houses y_now_7 home path k7) (nI (l2_7 % (tn (f_X9_bits (f_X9_mayOf x_houses y_now_7 home path k7)))))))).2)
def f_X9_goesBy_L7 (x_houses : Nat) (x_people : Nat) (home : Nat → Int32) (path : Nat → Int32) (kin : Nat → Int32) : Nat → Nat → Nat → Int64 → (Nat → Int32) → Nat × Int64 × (Nat → Int32)
  | 0, k7, l2_7, l3_7, y_now_7 => (l2_7, l3_7, y_now_7)
  | r7 + 1, k7, l2_7, l3_7, y_now_7 => f_X9_goesBy_L7 x_houses x_people home path kin r7 (k7 + 1) (if tn (f_X9_bits (f_X9_mayOf x_houses y_now_7 home path k7)) = 0 then l2_7 else l2_7 / (tn (f_X9_bits (f_X9_mayOf x_houses y_now_7 home path k7)))) (l3_7 * (if tn (f_X9_bits (f_X9_mayOf x_houses y_now_7 home path k7)) = 0 then (6 : Int64) else (6 / nI (tn (f_X9_bits (f_X9_mayOf x_houses y_now_7 home path k7)))).toInt64)) (f_X9_goesBy_x1 x_houses x_people home path kin k7 l2_7 y_now_7)
def f_X9_goesBy (x_houses : Nat) (x_people : Nat) (now : Nat → Int32) (home : Nat → Int32) (path : Nat → Int32) (kin : Nat → Int32) (p1 : Nat) : Int64 × (Nat → Int32) := ((f_X9_goesBy_L7 x_houses x_people home path kin x_people 0 p1 1 now).2.1, (f_X9_dawns x_people ((f_X9_goesBy_L7 x_houses x_people home path kin x_people 0 p1 1 now).2.2)).2)
set_option maxHeartbeats 4000000 in
set_option maxRecDepth 100000 in
theorem c_X9_goesBy (g : GT) (w0 : Wd) (B : Nat → Nat) (hB : ∀ i j, i < 60 → j < 60 → B i = B j → i = j) (x_thrown : Int32) (x_houses : Nat) (x_people : Nat) (x_paths : Nat) (x_acts : Nat) (x_size : Nat) (x_at : Nat) (x_readHouses : Nat) (x_readPeople : Nat) (x_readPaths : Nat) (x_sights : Nat) (x_drawn : Int64) (now : Nat → Int32) (home : Nat → Int32) (path : Nat → Int32) (kin : Nat → Int32) (p1 : Nat) (hxp : x_people ≤ 6) (hxh : x_houses ≤ 4) (hom : ∀ q, q < 6 → home q = nI (tn (home q)) ∧ tn (home q) < 4) (hw0 : p1 < 1000000) (h_m : w0 (B 0) = some (.inr (9, cM B (x_thrown, x_houses, x_people, x_paths, x_acts, x_size, x_at, x_readHouses, x_readPeople, x_readPaths, x_sights, x_drawn)))) (h_now : w0 (B 7) = some (.inl (g.2.2.1 0, 43, .inl now))) (h_home : w0 (B 5) = some (.inl (g.2.2.1 0, 6, .inl home))) (h_path : w0 (B 4) = some (.inl (g.2.2.1 0, 16, .inl path))) (h_kin : w0 (B 6) = some (.inl (g.2.2.1 0, 6, .inl kin))) : CT g yX9_goesBy cX9_goesBy 9 (some .long) 4 89 0 0 w0 [.ref (B 0), .int (nI p1)] (fun r w2 => r = some (.long ((f_X9_goesBy x_houses x_people now home path kin p1).1)) ∧ w2 (B 7) = some (.inl (g.2.2.1 0, 43, .inl ((f_X9_goesBy x_houses x_people now home path kin p1).2))) ∧ wE (fun q => q = (B 7)) w0 w2) := by
  refine CT.of (own := RX9) (by decide +kernel) rfl (Nat.le_of_ble_eq_true rfl) (fun X hC hR hI => ?_)
  show V g X 9 w0 0 0 0 [(0, .ref (B 0)), (1, .int (nI p1))] []
  have hE : wE (fun q => q = (B 7)) w0 w0 := wE.refl
  refine vv_iload_n hC 1 dX9_goesBy_0 rfl rfl ?_
  refine vv_istore_n (lv2 := [(2, .int (nI p1)), (0, .ref (B 0)), (1, .int (nI p1))]) hC dX9_goesBy_1 rfl (by decide) rfl ?_
  refine vv_lconst (v := 1) hC dX9_goesBy_2 (by decide) ?_
  refine vv_lstore_n (lv2 := [(3, .long 1), (2, .int (nI p1)), (0, .ref (B 0)), (1, .int (nI p1))]) hC dX9_goesBy_3 rfl (by decide) rfl ?_
  refine vv_iconst (v := 0) hC dX9_goesBy_4 (by decide) ?_
  refine vv_istore (lv2 := [(5, .int 0), (3, .long 1), (2, .int (nI p1)), (0, .ref (B 0)), (1, .int (nI p1))]) hC dX9_goesBy_5 (by decide) rfl ?_
  have hL11 : ∀ (r7 k7 : Nat) (l2_7 : Nat) (l3_7 : Int64) (y_now_7 : Nat → Int32) (w1 : Wd) (out : Nat × Int64 × (Nat → Int32)), k7 + r7 = x_people → l2_7 < 1000000 → out = f_X9_goesBy_L7 x_houses x_people home path kin r7 k7 l2_7 l3_7 y_now_7 → w1 (B 0) = some (.inr (9, cM B (x_thrown, x_houses, x_people, x_paths, x_acts, x_size, x_at, x_readHouses, x_readPeople, x_readPaths, x_sights, x_drawn))) → w1 (B 7) = some (.inl (g.2.2.1 0, 43, .inl y_now_7)) → w1 (B 5) = some (.inl (g.2.2.1 0, 6, .inl home)) → w1 (B 4) = some (.inl (g.2.2.1 0, 16, .inl path)) → w1 (B 6) = some (.inl (g.2.2.1 0, 6, .inl kin)) → wE (fun q => q = (B 7)) w0 w1 → (∀ w10 : Wd, w10 (B 0) = some (.inr (9, cM B (x_thrown, x_houses, x_people, x_paths, x_acts, x_size, x_at, x_readHouses, x_readPeople, x_readPaths, x_sights, x_drawn))) → w10 (B 7) = some (.inl (g.2.2.1 0, 43, .inl out.2.2)) → w10 (B 5) = some (.inl (g.2.2.1 0, 6, .inl home)) → w10 (B 4) = some (.inl (g.2.2.1 0, 16, .inl path)) → w10 (B 6) = some (.inl (g.2.2.1 0, 6, .inl kin)) → wE (fun q => q = (B 7)) w0 w10 → V g X 9 w10 0 0 84 [(0, .ref (B 0)), (1, .int (nI p1)), (2, .int (nI out.1)), (3, .long out.2.1)] []) → V g X 9 w1 0 0 7 [(0, .ref (B 0)), (1, .int (nI p1)), (2, .int (nI l2_7)), (3, .long l3_7), (5, .int (nI k7))] [] := by
    intro r7
    induction r7 with
    | zero =>
      intro k7 l2_7 l3_7 y_now_7 w1 out hb hlw ho h_m h_now h_home h_path h_kin hE hk
      refine vv_iload hC 4 dX9_goesBy_7 rfl ?_
      refine vv_aload_n hC 0 dX9_goesBy_9 rfl rfl ?_
      refine vv_get (v := .int (nI x_people)) hC fl_X9_80 dX9_goesBy_10 h_m rfl ?_
      refine vv_icmp_ge hC 84 dX9_goesBy_13 (by decide) (fun c => ?_) (fun c => False.elim (c ((nI_le_ (a := x_people) (b := k7) (by omega) (by omega)).mpr (by omega))))
      refine vv_lv [0, 1, 2, 3] rfl ?_
      have ho := ho.trans (by first | (simp only [f_X9_goesBy_L7]; done) | rfl | (simp only [f_X9_goesBy_L7]; rfl) : _ = (l2_7, l3_7, y_now_7))
      subst ho
      exact hk w1 h_m h_now h_home h_path h_kin hE
    | succ r7 ih =>
      intro k7 l2_7 l3_7 y_now_7 w1 out hb hlw ho h_m h_now h_home h_path h_kin hE hk
      refine vv_iload hC 4 dX9_goesBy_7 rfl ?_
      refine vv_aload_n hC 0 dX9_goesBy_9 rfl rfl ?_
      refine vv_get (v := .int (nI x_people)) hC fl_X9_80 dX9_goesBy_10 h_m rfl ?_
      refine vv_icmp_ge hC 84 dX9_goesBy_13 (by decide) (fun c => absurd ((nI_le_ (a := x_people) (b := k7) (by omega) (by omega)).mp c) (by first | omega | decide)) (fun c => ?_)
      refine vv_aload_n hC 0 dX9_goesBy_16 rfl rfl ?_
      refine vv_iload hC 4 dX9_goesBy_17 rfl ?_
      refine vv_callV hC dX9_goesBy_19 md_X9_mayOf lk_m_X9_178 lk_i_X9_mayOf lk_s_X9_mayOf h_m rfl (As := [.int (nI k7)]) (rest := []) (c_X9_mayOf g w1 B hB x_thrown x_houses x_people x_paths x_acts x_size x_at x_readHouses x_readPeople x_readPaths x_sights x_drawn y_now_7 home path k7 (by omega) (by omega) (hom) h_m h_now h_home h_path) rfl rfl (Nat.le_of_ble_eq_true rfl) ⟨by decide, by decide, by decide, by decide⟩ (fun r w9 hq => ?_)
      obtain ⟨rfl, rfl⟩ := hq
      show V g X 9 w1 0 0 22 [(0, .ref (B 0)), (1, .int (nI p1)), (2, .int (nI l2_7)), (3, .long l3_7), (5, .int (nI k7))] [.int (f_X9_mayOf x_houses y_now_7 home path k7)]
      refine vv_istore (lv2 := [(6, .int (f_X9_mayOf x_houses y_now_7 home path k7)), (0, .ref (B 0)), (1, .int (nI p1)), (2, .int (nI l2_7)), (3, .long l3_7), (5, .int (nI k7))]) hC dX9_goesBy_22 (by decide) rfl ?_
      refine vv_iload hC 0 dX9_goesBy_24 rfl ?_
      refine vv_callS hC dX9_goesBy_26 md_X9_bits lk_m_X9_251 lk_t_X9_bits (As := [.int (f_X9_mayOf x_houses y_now_7 home path k7)]) (rest := []) (c_X9_bits g w1 (f_X9_mayOf x_houses y_now_7 home path k7)) rfl rfl (Nat.le_of_ble_eq_true rfl) ⟨by decide, by decide, by decide, by decide⟩ (fun r w9 hq => ?_)
      obtain ⟨rfl, rfl⟩ := hq
      show V g X 9 w1 0 0 29 [(6, .int (f_X9_mayOf x_houses y_now_7 home path k7)), (0, .ref (B 0)), (1, .int (nI p1)), (2, .int (nI l2_7)), (3, .long l3_7), (5, .int (nI k7))] [.int (f_X9_bits (f_X9_mayOf x_houses y_now_7 home path k7))]
      have b2 := (show tn (f_X9_bits (f_X9_mayOf x_houses y_now_7 home path k7)) ≤ 4 from (bits_S (mayOf_S hxh)).2)
      refine vv_topi (nI (tn (f_X9_bits (f_X9_mayOf x_houses y_now_7 home path k7)))) ((bits_S (mayOf_S hxh)).1) ?_
      refine vv_istore (lv2 := [(7, .int (nI (tn (f_X9_bits (f_X9_mayOf x_houses y_now_7 home path k7))))), (6, .int (f_X9_mayOf x_houses y_now_7 home path k7)), (0, .ref (B 0)), (1, .int (nI p1)), (2, .int (nI l2_7)), (3, .long l3_7), (5, .int (nI k7))]) hC dX9_goesBy_29 (by decide) rfl ?_
      refine vv_lload_n hC 5 dX9_goesBy_31 rfl rfl ?_
      refine vv_iload hC 0 dX9_goesBy_32 rfl ?_
      have hJ4 : V g X 9 w1 0 0 49 [(0, .ref (B 0)), (1, .int (nI p1)), (2, .int (nI l2_7)), (3, .long l3_7), (5, .int (nI k7)), (6, .int (f_X9_mayOf x_houses y_now_7 home path k7)), (7, .int (nI (tn (f_X9_bits (f_X9_mayOf x_houses y_now_7 home path k7)))))] [.long (if tn (f_X9_bits (f_X9_mayOf x_houses y_now_7 home path k7)) = 0 then (6 : Int64) else (6 / nI (tn (f_X9_bits (f_X9_mayOf x_houses y_now_7 home path k7)))).toInt64), .long l3_7] := by
        refine vv_lmul hC dX9_goesBy_49 ?_
        refine vv_lstore_n (lv2 := [(3, .long (l3_7 * (if tn (f_X9_bits (f_X9_mayOf x_houses y_now_7 home path k7)) = 0 then (6 : Int64) else (6 / nI (tn (f_X9_bits (f_X9_mayOf x_houses y_now_7 home path k7)))).toInt64))), (0, .ref (B 0)), (1, .int (nI p1)), (2, .int (nI l2_7)), (5, .int (nI k7)), (6, .int (f_X9_mayOf x_houses y_now_7 home path k7)), (7, .int (nI (tn (f_X9_bits (f_X9_mayOf x_houses y_now_7 home path k7)))))]) hC dX9_goesBy_50 rfl (by decide) rfl ?_
        refine vv_iload hC 6 dX9_goesBy_51 rfl ?_
        have hJ6 : ∀ w9 : Wd, w9 (B 0) = some (.inr (9, cM B (x_thrown, x_houses, x_people, x_paths, x_acts, x_size, x_at, x_readHouses, x_readPeople, x_readPaths, x_sights, x_drawn))) → w9 (B 7) = some (.inl (g.2.2.1 0, 43, .inl (f_X9_goesBy_x1 x_houses x_people home path kin k7 l2_7 y_now_7))) → w9 (B 5) = some (.inl (g.2.2.1 0, 6, .inl home)) → w9 (B 4) = some (.inl (g.2.2.1 0, 16, .inl path)) → w9 (B 6) = some (.inl (g.2.2.1 0, 6, .inl kin)) → wE (fun q => q = (B 7)) w0 w9 → V g X 9 w9 0 0 78 [(0, .ref (B 0)), (1, .int (nI p1)), (2, .int (nI (if tn (f_X9_bits (f_X9_mayOf x_houses y_now_7 home path k7)) = 0 then l2_7 else l2_7 / (tn (f_X9_bits (f_X9_mayOf x_houses y_now_7 home path k7)))))), (3, .long (l3_7 * (if tn (f_X9_bits (f_X9_mayOf x_houses y_now_7 home path k7)) = 0 then (6 : Int64) else (6 / nI (tn (f_X9_bits (f_X9_mayOf x_houses y_now_7 home path k7)))).toInt64))), (5, .int (nI k7)), (6, .int (f_X9_mayOf x_houses y_now_7 home path k7)), (7, .int (nI (tn (f_X9_bits (f_X9_mayOf x_houses y_now_7 home path k7)))))] [] := by
          intro w9 h_m h_now h_home h_path h_kin hE
          refine vv_iinc (lv2 := [(5, .int (nI (k7 + 1))), (0, .ref (B 0)), (1, .int (nI p1)), (2, .int (nI (if tn (f_X9_bits (f_X9_mayOf x_houses y_now_7 home path k7)) = 0 then l2_7 else l2_7 / (tn (f_X9_bits (f_X9_mayOf x_houses y_now_7 home path k7)))))), (3, .long (l3_7 * (if tn (f_X9_bits (f_X9_mayOf x_houses y_now_7 home path k7)) = 0 then (6 : Int64) else (6 / nI (tn (f_X9_bits (f_X9_mayOf x_houses y_now_7 home path k7)))).toInt64))), (6, .int (f_X9_mayOf x_houses y_now_7 home path k7)), (7, .int (nI (tn (f_X9_bits (f_X9_mayOf x_houses y_now_7 home path k7)))))]) hC 4 dX9_goesBy_78 rfl (nI_add k7 1) (by decide) rfl ?_
          refine vv_goto hC 7 dX9_goesBy_81 (by decide) ?_
          refine vv_lv [1, 2, 3, 4, 0] rfl ?_
          exact ih (k7 + 1) (if tn (f_X9_bits (f_X9_mayOf x_houses y_now_7 home path k7)) = 0 then l2_7 else l2_7 / (tn (f_X9_bits (f_X9_mayOf x_houses y_now_7 home path k7)))) (l3_7 * (if tn (f_X9_bits (f_X9_mayOf x_houses y_now_7 home path k7)) = 0 then (6 : Int64) else (6 / nI (tn (f_X9_bits (f_X9_mayOf x_houses y_now_7 home path k7)))).toInt64)) (f_X9_goesBy_x1 x_houses x_people home path kin k7 l2_7 y_now_7) w9 out (by omega) (by first | omega | (split <;> first | omega | exact Nat.lt_of_le_of_lt (Nat.div_le_self _ _) (by omega))) (ho.trans (by first | (simp only [f_X9_goesBy_L7]; done) | rfl | (simp only [f_X9_goesBy_L7]; rfl))) h_m h_now h_home h_path h_kin hE hk
        refine vv_if_le hC 78 dX9_goesBy_53 (by decide) (fun c5 => ?_) (fun c5 => ?_)
        · have c5 : tn (f_X9_bits (f_X9_mayOf x_houses y_now_7 home path k7)) = 0 := Nat.le_zero.mp ((nI_le_ (a := tn (f_X9_bits (f_X9_mayOf x_houses y_now_7 home path k7))) (b := 0) (by omega) (by omega)).mp c5)
          refine vv_lv [1, 2, 3, 0, 4, 5, 6] rfl ?_
          have hz := hJ6 w1
          try simp only [f_X9_goesBy_x1, if_pos c5] at hz
          first | exact hz h_m h_now h_home h_path h_kin hE | (simp only [f_X9_goesBy_x1, if_pos c5]; exact hz h_m h_now h_home h_path h_kin hE)
        · have c5 : ¬ (tn (f_X9_bits (f_X9_mayOf x_houses y_now_7 home path k7)) = 0) := fun z => c5 ((nI_le_ (a := tn (f_X9_bits (f_X9_mayOf x_houses y_now_7 home path k7))) (b := 0) (by omega) (by omega)).mpr (Nat.le_of_eq z))
          refine vv_aload_n hC 1 dX9_goesBy_56 rfl rfl ?_
          refine vv_iload hC 4 dX9_goesBy_57 rfl ?_
          refine vv_iload hC 5 dX9_goesBy_59 rfl ?_
          refine vv_iload_n hC 3 dX9_goesBy_61 rfl rfl ?_
          refine vv_iload hC 6 dX9_goesBy_62 rfl ?_
          have hml := Nat.mod_lt l2_7 (show 0 < _ from by omega : 0 < tn (f_X9_bits (f_X9_mayOf x_houses y_now_7 home path k7)))
          refine vv_irem hC dX9_goesBy_64 (nI_ne0_ (by omega) (by omega)) ?_
          refine vv_topi (nI (l2_7 % (tn (f_X9_bits (f_X9_mayOf x_houses y_now_7 home path k7))))) (nI_rem (a := l2_7) (d := tn (f_X9_bits (f_X9_mayOf x_houses y_now_7 home path k7))) (by omega) (by omega) (by omega)) ?_
          refine vv_callS hC dX9_goesBy_65 md_X9_placeOf lk_m_X9_254 lk_t_X9_placeOf (As := [.int (f_X9_mayOf x_houses y_now_7 home path k7), .int (nI (l2_7 % (tn (f_X9_bits (f_X9_mayOf x_houses y_now_7 home path k7)))))]) (rest := [.int (nI k7), .ref (B 0)]) (c_X9_placeOf g w1 (f_X9_mayOf x_houses y_now_7 home path k7) (nI (l2_7 % (tn (f_X9_bits (f_X9_mayOf x_houses y_now_7 home path k7))))) (placeOf_E (mayOf_S hxh) hml)) rfl rfl (Nat.le_of_ble_eq_true rfl) ⟨by decide, by decide, by decide, by decide⟩ (fun r w9 hq => ?_)
          obtain ⟨rfl, rfl⟩ := hq
          show V g X 9 w1 0 0 68 [(3, .long (l3_7 * (if tn (f_X9_bits (f_X9_mayOf x_houses y_now_7 home path k7)) = 0 then (6 : Int64) else (6 / nI (tn (f_X9_bits (f_X9_mayOf x_houses y_now_7 home path k7)))).toInt64))), (0, .ref (B 0)), (1, .int (nI p1)), (2, .int (nI l2_7)), (5, .int (nI k7)), (6, .int (f_X9_mayOf x_houses y_now_7 home path k7)), (7, .int (nI (tn (f_X9_bits (f_X9_mayOf x_houses y_now_7 home path k7)))))] [.int (f_X9_placeOf (f_X9_mayOf x_houses y_now_7 home path k7) (nI (l2_7 % (tn (f_X9_bits (f_X9_mayOf x_houses y_now_7 home path k7)))))), .int (nI k7), .ref (B 0)]
          have bz7 := (placeOf_S (mayOf_S hxh) hml).2
          refine vv_topi (nI (tn (f_X9_placeOf (f_X9_mayOf x_houses y_now_7 home path k7) (nI (l2_7 % (tn (f_X9_bits (f_X9_mayOf x_houses y_now_7 home path k7)))))))) ((placeOf_S (mayOf_S hxh) hml).1) ?_
          refine vv_callV hC dX9_goesBy_68 md_X9_visits lk_m_X9_187 lk_i_X9_visits lk_s_X9_visits h_m rfl (As := [.int (nI k7), .int (nI (tn (f_X9_placeOf (f_X9_mayOf x_houses y_now_7 home path k7) (nI (l2_7 % (tn (f_X9_bits (f_X9_mayOf x_houses y_now_7 home path k7))))))))]) (rest := []) (c_X9_visits g w1 B hB x_thrown x_houses x_people x_paths x_acts x_size x_at x_readHouses x_readPeople x_readPaths x_sights x_drawn y_now_7 home kin path k7 (tn (f_X9_placeOf (f_X9_mayOf x_houses y_now_7 home path k7) (nI (l2_7 % (tn (f_X9_bits (f_X9_mayOf x_houses y_now_7 home path k7))))))) (by omega) (by omega) (by omega) (hom) h_m h_now h_home h_kin h_path) rfl rfl (Nat.le_of_ble_eq_true rfl) ⟨by decide, by decide, by decide, by decide⟩ (fun r w9 hq => ?_)
          obtain ⟨rfl, t1, hs⟩ := hq
          obtain ⟨w8, rfl⟩ : ∃ z, z = w9 := ⟨_, rfl⟩
          have h_m := hs _ _ (fw_oa h_m h_now) h_m
          have h_home := hs _ _ (fw_inj hB (by decide) (by decide) (by decide)) h_home
          have h_path := hs _ _ (fw_inj hB (by decide) (by decide) (by decide)) h_path
          have h_kin := hs _ _ (fw_inj hB (by decide) (by decide) (by decide)) h_kin
          have h_now := t1
          have hE := hE.trans (hs.mono (fun _ z => z))
          show V g X 9 w8 0 0 71 [(3, .long (l3_7 * (if tn (f_X9_bits (f_X9_mayOf x_houses y_now_7 home path k7)) = 0 then (6 : Int64) else (6 / nI (tn (f_X9_bits (f_X9_mayOf x_houses y_now_7 home path k7)))).toInt64))), (0, .ref (B 0)), (1, .int (nI p1)), (2, .int (nI l2_7)), (5, .int (nI k7)), (6, .int (f_X9_mayOf x_houses y_now_7 home path k7)), (7, .int (nI (tn (f_X9_bits (f_X9_mayOf x_houses y_now_7 home path k7)))))] [.int ((f_X9_visits x_people y_now_7 home kin path k7 (tn (f_X9_placeOf (f_X9_mayOf x_houses y_now_7 home path k7) (nI (l2_7 % (tn (f_X9_bits (f_X9_mayOf x_houses y_now_7 home path k7)))))))).1)]
          refine vv_istore (lv2 := [(8, .int ((f_X9_visits x_people y_now_7 home kin path k7 (tn (f_X9_placeOf (f_X9_mayOf x_houses y_now_7 home path k7) (nI (l2_7 % (tn (f_X9_bits (f_X9_mayOf x_houses y_now_7 home path k7)))))))).1)), (3, .long (l3_7 * (if tn (f_X9_bits (f_X9_mayOf x_houses y_now_7 home path k7)) = 0 then (6 : Int64) else (6 / nI (tn (f_X9_bits (f_X9_mayOf x_houses y_now_7 home path k7)))).toInt64))), (0, .ref (B 0)), (1, .int (nI p1)), (2, .int (nI l2_7)), (5, .int (nI k7)), (6, .int (f_X9_mayOf x_houses y_now_7 home path k7)), (7, .int (nI (tn (f_X9_bits (f_X9_mayOf x_houses y_now_7 home path k7)))))]) hC dX9_goesBy_71 (by decide) rfl ?_
          refine vv_iload_n hC 4 dX9_goesBy_73 rfl rfl ?_
          have hdl := Nat.div_le_self l2_7 (tn (f_X9_bits (f_X9_mayOf x_houses y_now_7 home path k7)))
          refine vv_iload hC 7 dX9_goesBy_74 rfl ?_
          refine vv_idiv hC dX9_goesBy_76 (nI_ne0_ (by omega) (by omega)) ?_
          refine vv_topi (nI (l2_7 / (tn (f_X9_bits (f_X9_mayOf x_houses y_now_7 home path k7))))) (nI_div (a := l2_7) (d := tn (f_X9_bits (f_X9_mayOf x_houses y_now_7 home path k7))) (by omega) (by omega) (by omega)) ?_
          refine vv_istore_n (lv2 := [(2, .int (nI (l2_7 / (tn (f_X9_bits (f_X9_mayOf x_houses y_now_7 home path k7)))))), (8, .int ((f_X9_visits x_people y_now_7 home kin path k7 (tn (f_X9_placeOf (f_X9_mayOf x_houses y_now_7 home path k7) (nI (l2_7 % (tn (f_X9_bits (f_X9_mayOf x_houses y_now_7 home path k7)))))))).1)), (3, .long (l3_7 * (if tn (f_X9_bits (f_X9_mayOf x_houses y_now_7 home path k7)) = 0 then (6 : Int64) else (6 / nI (tn (f_X9_bits (f_X9_mayOf x_houses y_now_7 home path k7)))).toInt64))), (0, .ref (B 0)), (1, .int (nI p1)), (5, .int (nI k7)), (6, .int (f_X9_mayOf x_houses y_now_7 home path k7)), (7, .int (nI (tn (f_X9_bits (f_X9_mayOf x_houses y_now_7 home path k7)))))]) hC dX9_goesBy_77 rfl (by decide) rfl ?_
          refine vv_lv [3, 4, 0, 2, 5, 6, 7] rfl ?_
          have hz := hJ6 w8
          try simp only [f_X9_goesBy_x1, if_neg c5] at hz
          first | exact hz h_m h_now h_home h_path h_kin hE | (simp only [f_X9_goesBy_x1, if_neg c5]; exact hz h_m h_now h_home h_path h_kin hE)
      refine vv_if_le hC 46 dX9_goesBy_34 (by decide) (fun c3 => ?_) (fun c3 => ?_)
      · have c3 : tn (f_X9_bits (f_X9_mayOf x_houses y_now_7 home path k7)) = 0 := Nat.le_zero.mp ((nI_le_ (a := tn (f_X9_bits (f_X9_mayOf x_houses y_now_7 home path k7))) (b := 0) (by omega) (by omega)).mp c3)
        refine vv_ldc2 (v := (6)) hC lk_l_X9_206 dX9_goesBy_46 ?_
        refine vv_lv [2, 3, 4, 5, 6, 1, 0] rfl ?_
        have hz := hJ4
        try simp only [if_pos c3] at hz
        first | exact hz | (simp only [if_pos c3]; exact hz)
      · have c3 : ¬ (tn (f_X9_bits (f_X9_mayOf x_houses y_now_7 home path k7)) = 0) := fun z => c3 ((nI_le_ (a := tn (f_X9_bits (f_X9_mayOf x_houses y_now_7 home path k7))) (b := 0) (by omega) (by omega)).mpr (Nat.le_of_eq z))
        refine vv_bipush (v := (6)) hC dX9_goesBy_37 (by decide) ?_
        refine vv_iload hC 0 dX9_goesBy_39 rfl ?_
        refine vv_idiv hC dX9_goesBy_41 (nI_ne0_ (by omega) (by omega)) ?_
        refine vv_i2l hC dX9_goesBy_42 ?_
        refine vv_goto hC 49 dX9_goesBy_43 (by decide) ?_
        refine vv_lv [2, 3, 4, 5, 6, 1, 0] rfl ?_
        have hz := hJ4
        try simp only [if_neg c3] at hz
        first | exact hz | (simp only [if_neg c3]; exact hz)
  refine vv_lv [3, 4, 2, 1, 0] rfl ?_
  refine hL11 x_people 0 p1 1 now w0 (f_X9_goesBy_L7 x_houses x_people home path kin x_people 0 p1 1 now) (by omega) (by omega) rfl h_m h_now h_home h_path h_kin hE ?_
  intro w10 h_m h_now h_home h_path h_kin hE
  refine vv_aload_n hC 0 dX9_goesBy_84 rfl rfl ?_
  refine vv_callV hC dX9_goesBy_85 md_X9_dawns lk_m_X9_190 lk_i_X9_dawns lk_s_X9_dawns h_m rfl (As := []) (rest := []) (c_X9_dawns g w10 B hB x_thrown x_houses x_people x_paths x_acts x_size x_at x_readHouses x_readPeople x_readPaths x_sights x_drawn ((f_X9_goesBy_L7 x_houses x_people home path kin x_people 0 p1 1 now).2.2) (by omega) h_m h_now) rfl rfl (Nat.le_of_ble_eq_true rfl) ⟨by decide, by decide, by decide, by decide⟩ (fun r w9 hq => ?_)
  obtain ⟨rfl, t1, hs⟩ := hq
  obtain ⟨w12, rfl⟩ : ∃ z, z = w9 := ⟨_, rfl⟩
  have h_m := hs _ _ (fw_oa h_m h_now) h_m
  have h_home := hs _ _ (fw_inj hB (by decide) (by decide) (by decide)) h_home
  have h_path := hs _ _ (fw_inj hB (by decide) (by decide) (by decide)) h_path
  have h_kin := hs _ _ (fw_inj hB (by decide) (by decide) (by decide)) h_kin
  have h_now := t1
  have hE := hE.trans (hs.mono (fun _ z => z))
  show V g X 9 w12 0 0 88 [(0, .ref (B 0)), (1, .int (nI p1)), (2, .int (nI ((f_X9_goesBy_L7 x_houses x_people home path kin x_people 0 p1 1 now).1))), (3, .long ((f_X9_goesBy_L7 x_houses x_people home path kin x_people 0 p1 1 now).2.1))] [.int ((f_X9_dawns x_people ((f_X9_goesBy_L7 x_houses x_people home path kin x_people 0 p1 1 now).2.2)).1)]
  refine vv_istore (lv2 := [(5, .int ((f_X9_dawns x_people ((f_X9_goesBy_L7 x_houses x_people home path kin x_people 0 p1 1 now).2.2)).1)), (0, .ref (B 0)), (1, .int (nI p1)), (2, .int (nI ((f_X9_goesBy_L7 x_houses x_people home path kin x_people 0 p1 1 now).1))), (3, .long ((f_X9_goesBy_L7 x_houses x_people home path kin x_people 0 p1 1 now).2.1))]) hC dX9_goesBy_88 (by decide) rfl ?_
  refine vv_lload_n hC 4 dX9_goesBy_90 rfl rfl ?_
  have hf : (f_X9_goesBy x_houses x_people now home path kin p1) = ((f_X9_goesBy_L7 x_houses x_people home path kin x_people 0 p1 1 now).2.1, (f_X9_dawns x_people ((f_X9_goesBy_L7 x_houses x_people home path kin x_people 0 p1 1 now).2.2)).2) := by first | (simp only [f_X9_goesBy]; done) | rfl | (simp only [f_X9_goesBy]; rfl)
  refine vv_lret hC hR rfl dX9_goesBy_91 (by omega) (by omega) ?_
  rw [hf]
  try dsimp only
  exact ⟨rfl, h_now, hE⟩
