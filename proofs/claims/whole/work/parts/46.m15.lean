def f_X9_judge_L10 (p1 : Int32) : Nat → Nat → Nat → Nat × Nat
  | 0, l3_10, l4_10 => (l3_10, l4_10)
  | r10 + 1, l3_10, l4_10 => (if p1 ≤ nI l4_10 then (l3_10, l4_10) else (if f_X9_in p1.toInt64 1 4 = true then f_X9_judge_L10 p1 r10 (l3_10 * 100) (l4_10 + 1) else (l3_10, l4_10)))
def f_X9_judge_L10_E (p1 : Int32) : Nat → Nat → Nat → Bool
  | 0, l3_10, l4_10 => (if p1 ≤ nI l4_10 then true else (if f_X9_in p1.toInt64 1 4 = true then false else true))
  | r10 + 1, l3_10, l4_10 => (if p1 ≤ nI l4_10 then true else (if f_X9_in p1.toInt64 1 4 = true then f_X9_judge_L10_E p1 r10 (l3_10 * 100) (l4_10 + 1) else true))
def f_X9_judge_L76 (x_houses : Nat) (x_people : Nat) (now : Nat → Int32) (home : Nat → Int32) (path : Nat → Int32) : Nat → Nat → Nat → Int32 → Nat → Int32 × Int32
  | 0, k76, l3_76, l4_76, l5_76 => ((-9), 0)
  | r76 + 1, k76, l3_76, l4_76, l5_76 => (if f_X9_noOne x_people (nI ((l5_76 / (l3_76 / 100)) / 10)) = true then (nI k76, 0) else (if f_X9_noHouse x_houses (nI ((l5_76 / (l3_76 / 100)) % 10)) = true then (nI k76, 0) else (if f_X9_has l4_76 (nI ((l5_76 / (l3_76 / 100)) / 10)) = true then (nI k76, 0) else (if f_X9_has (f_X9_mayOf x_houses now home path ((l5_76 / (l3_76 / 100)) / 10)) (nI ((l5_76 / (l3_76 / 100)) % 10)) = true then f_X9_judge_L76 x_houses x_people now home path r76 (k76 + 1) (l3_76 / 100) (l4_76 ||| ((1 : Int32) <<< (nI ((l5_76 / (l3_76 / 100)) / 10) &&& 31))) (l5_76 % (l3_76 / 100)) else (nI k76, 0)))))
def f_X9_judge (x_houses : Nat) (x_people : Nat) (now : Nat → Int32) (home : Nat → Int32) (path : Nat → Int32) (p1 : Int32) (p2 : Int32) : Int32 × Int32 := (if f_X9_in p1.toInt64 1 4 = true then (if f_X9_in p2.toInt64 0 ((nI ((f_X9_judge_L10 p1 fuelC 1 0).1) - 1).toInt64) = true then f_X9_judge_L76 x_houses x_people now home path (tn p1) 0 ((f_X9_judge_L10 p1 fuelC 1 0).1) 0 (tn p2) else ((-2), 0)) else ((-2), 0))
theorem jg_E {p : Int32} : ∀ (n a k : Nat), 4 ≤ k + n → k ≤ 4 → f_X9_judge_L10_E p n a k = true := by
  intro n
  induction n with
  | zero =>
    intro a k h1 h2
    by_cases c : p ≤ nI k
    · simp only [f_X9_judge_L10_E, if_pos c]
    · by_cases c2 : f_X9_in p.toInt64 1 4 = true
      · obtain ⟨j, a1, a2, rfl⟩ := (inC_iff (lo := 1) (hi := 4) (by decide) (by decide) (by decide)).mp c2
        exact absurd ((nI_le_ (by omega) (by omega)).mpr (by omega)) c
      · simp only [f_X9_judge_L10_E, if_neg c, if_neg c2]
  | succ n ih =>
    intro a k h1 h2
    by_cases c : p ≤ nI k
    · simp only [f_X9_judge_L10_E, if_pos c]
    · by_cases c2 : f_X9_in p.toInt64 1 4 = true
      · simp only [f_X9_judge_L10_E, if_neg c, if_pos c2]
        obtain ⟨j, a1, a2, rfl⟩ := (inC_iff (lo := 1) (hi := 4) (by decide) (by decide) (by decide)).mp c2
        refine ih _ _ (by omega) ?_
        have : ¬ j ≤ k := fun z => c ((nI_le_ (by omega) (by omega)).mpr z)
        omega
      · simp only [f_X9_judge_L10_E, if_neg c, if_neg c2]
theorem jg_A {p : Int32} (h : f_X9_in p.toInt64 1 4 = true) : (f_X9_judge_L10 p fuelC 1 0).1 = 100 ^ tn p ∧ (f_X9_judge_L10 p fuelC 1 0).1 ≤ 100000000 ∧ 1 ≤ tn p ∧ tn p ≤ 4 := by
  obtain ⟨j, a1, a2, rfl⟩ := (inC_iff (lo := 1) (hi := 4) (by decide) (by decide) (by decide)).mp h
  have : j = 1 ∨ j = 2 ∨ j = 3 ∨ j = 4 := by omega
  rcases this with rfl | rfl | rfl | rfl <;> decide +kernel
theorem jg_z {a n k : Nat} (h : a = 100 ^ (n - k)) (hk : k < n) (hn : n ≤ 4) : a = 100 * (a / 100) ∧ a / 100 = 100 ^ (n - (k + 1)) ∧ 0 < a / 100 ∧ a ≤ 100000000 := by
  subst h
  obtain ⟨d, hd⟩ : ∃ d, n - k = d + 1 := ⟨n - k - 1, by omega⟩
  rw [hd, show n - (k + 1) = d from by omega]
  have : d = 0 ∨ d = 1 ∨ d = 2 ∨ d = 3 := by omega
  rcases this with rfl | rfl | rfl | rfl <;> decide
theorem jg_q {l a : Nat} (h : l < 100 * a) : l / a < 100 := Nat.div_lt_of_lt_mul (by rw [Nat.mul_comm]; exact h)

set_option maxHeartbeats 4000000 in
set_option maxRecDepth 100000 in
theorem c_X9_judge (g : GT) (w0 : Wd) (B : Nat → Nat) (hB : ∀ i j, i < 60 → j < 60 → B i = B j → i = j) (x_thrown : Int32) (x_houses : Nat) (x_people : Nat) (x_paths : Nat) (x_acts : Nat) (x_size : Nat) (x_at : Nat) (x_readHouses : Nat) (x_readPeople : Nat) (x_readPaths : Nat) (x_sights : Nat) (x_drawn : Int64) (now : Nat → Int32) (home : Nat → Int32) (path : Nat → Int32) (p1 : Int32) (p2 : Int32) (hxp : x_people ≤ 6) (hxh : x_houses ≤ 4) (hom : ∀ q, q < 6 → home q = nI (tn (home q)) ∧ tn (home q) < 4) (h_m : w0 (B 0) = some (.inr (9, cM B (x_thrown, x_houses, x_people, x_paths, x_acts, x_size, x_at, x_readHouses, x_readPeople, x_readPaths, x_sights, x_drawn)))) (h_now : w0 (B 7) = some (.inl (g.2.2.1 0, 43, .inl now))) (h_home : w0 (B 5) = some (.inl (g.2.2.1 0, 6, .inl home))) (h_path : w0 (B 4) = some (.inl (g.2.2.1 0, 16, .inl path))) : CT g yX9_judge cX9_judge 9 (some .int) 3 66 0 0 w0 [.ref (B 0), .int p1, .int p2] (fun r w2 => r = some (.int ((f_X9_judge x_houses x_people now home path p1 p2).1)) ∧ w2 (B 0) = some (.inr (9, cM B ((f_X9_judge x_houses x_people now home path p1 p2).2, x_houses, x_people, x_paths, x_acts, x_size, x_at, x_readHouses, x_readPeople, x_readPaths, x_sights, x_drawn))) ∧ wE (fun q => q = (B 0)) w0 w2) := by
  refine CT.of (own := RX9) (by decide +kernel) rfl (Nat.le_of_ble_eq_true rfl) (fun X hC hR hI => ?_)
  show V g X 9 w0 0 0 0 [(0, .ref (B 0)), (1, .int p1), (2, .int p2)] []
  have hE : wE (fun q => q = (B 0)) w0 w0 := wE.refl
  refine vv_aload_n hC 0 dX9_judge_0 rfl rfl ?_
  refine vv_iconst (v := 0) hC dX9_judge_1 (by decide) ?_
  refine vv_put hC fp_X9_69 dX9_judge_2 h_m rfl rfl (Nat.le_of_ble_eq_true rfl) (fun w1 t1 hs => ?_)
  have t1 : w1 (B 0) = some (.inr (9, cM B (0, x_houses, x_people, x_paths, x_acts, x_size, x_at, x_readHouses, x_readPeople, x_readPaths, x_sights, x_drawn))) := t1.trans (congrArg (fun z => some (Sum.inr (9, z))) (eM_thrown _ _ _ _ _ _ _ _ _ _ _ _ _ _))
  have h_now := hs _ _ (fw_ao h_now h_m) h_now
  have h_home := hs _ _ (fw_ao h_home h_m) h_home
  have h_path := hs _ _ (fw_ao h_path h_m) h_path
  have h_m := t1
  have hE := hE.trans (hs.mono (fun _ z => z))
  refine vv_iconst (v := 1) hC dX9_judge_5 (by decide) ?_
  refine vv_istore_n (lv2 := [(3, .int 1), (0, .ref (B 0)), (1, .int p1), (2, .int p2)]) hC dX9_judge_6 rfl (by decide) rfl ?_
  refine vv_iconst (v := 0) hC dX9_judge_7 (by decide) ?_
  refine vv_istore (lv2 := [(4, .int 0), (3, .int 1), (0, .ref (B 0)), (1, .int p1), (2, .int p2)]) hC dX9_judge_8 (by decide) rfl ?_
  have hL6 : ∀ (r10 : Nat) (l3_10 : Nat) (l4_10 : Nat) (out : Nat × Nat), f_X9_judge_L10_E p1 r10 l3_10 l4_10 = true → out = f_X9_judge_L10 p1 r10 l3_10 l4_10 → V g X 9 w1 0 0 39 [(0, .ref (B 0)), (1, .int p1), (2, .int p2), (3, .int (nI out.1)), (4, .int (nI out.2))] [] → V g X 9 w1 0 0 10 [(0, .ref (B 0)), (1, .int p1), (2, .int p2), (3, .int (nI l3_10)), (4, .int (nI l4_10))] [] := by
    intro r10
    induction r10 with
    | zero =>
      intro l3_10 l4_10 out he ho hk
      refine vv_iload hC 4 dX9_judge_10 rfl ?_
      refine vv_iload_n hC 1 dX9_judge_12 rfl rfl ?_
      refine vv_icmp_ge hC 39 dX9_judge_13 (by decide) (fun c2 => ?_) (fun c2 => ?_)
      · have c2 : p1 ≤ nI l4_10 := c2
        have ho := ho.trans (by first | (simp only [f_X9_judge_L10, if_pos c2]; done) | rfl | (simp only [f_X9_judge_L10, if_pos c2]; rfl) : _ = (l3_10, l4_10))
        subst ho
        exact hk
      · have c2 : ¬ (p1 ≤ nI l4_10) := c2
        refine vv_iload_n hC 1 dX9_judge_16 rfl rfl ?_
        refine vv_i2l hC dX9_judge_17 ?_
        refine vv_lconst (v := 1) hC dX9_judge_18 (by decide) ?_
        refine vv_ldc2 (v := (4)) hC lk_l_X9_195 dX9_judge_19 ?_
        refine vv_callS hC dX9_judge_22 md_X9_in lk_m_X9_76 lk_t_X9_in (As := [.long p1.toInt64, .long 1, .long 4]) (rest := []) (c_X9_in g w1 p1.toInt64 1 4) rfl rfl (Nat.le_of_ble_eq_true rfl) ⟨by decide, by decide, by decide, by decide⟩ (fun r w9 hq => ?_)
        obtain ⟨rfl, rfl⟩ := hq
        show V g X 9 w1 0 0 25 [(0, .ref (B 0)), (1, .int p1), (2, .int p2), (3, .int (nI l3_10)), (4, .int (nI l4_10))] [.int (bI (f_X9_in p1.toInt64 1 4))]
        refine vv_if_eq hC 39 dX9_judge_25 (by decide) (fun c3 => ?_) (fun c3 => ?_)
        · have c3 : ¬ (f_X9_in p1.toInt64 1 4 = true) := bI_f c3
          have ho := ho.trans (by first | (simp only [f_X9_judge_L10, if_neg c2, if_neg c3]; done) | rfl | (simp only [f_X9_judge_L10, if_neg c2, if_neg c3]; rfl) : _ = (l3_10, l4_10))
          subst ho
          exact hk
        · have c3 : f_X9_in p1.toInt64 1 4 = true := bI_t c3
          have bc3 := inC_b (lo := 1) (hi := 4) (by decide) (by decide) (by decide) c3
          refine vv_iload_n hC 3 dX9_judge_28 rfl rfl ?_
          refine vv_bipush (v := (100)) hC dX9_judge_29 (by decide) ?_
          refine vv_imul hC dX9_judge_31 ?_
          refine vv_topi (nI (l3_10 * 100)) (pk_mul l3_10 100) ?_
          refine vv_istore_n (lv2 := [(3, .int (nI (l3_10 * 100))), (0, .ref (B 0)), (1, .int p1), (2, .int p2), (4, .int (nI l4_10))]) hC dX9_judge_32 rfl (by decide) rfl ?_
          refine vv_iinc (lv2 := [(4, .int (nI (l4_10 + 1))), (3, .int (nI (l3_10 * 100))), (0, .ref (B 0)), (1, .int p1), (2, .int p2)]) hC 4 dX9_judge_33 rfl (nI_add l4_10 1) (by decide) rfl ?_
          refine vv_goto hC 10 dX9_judge_36 (by decide) ?_
          refine vv_lv [2, 3, 4, 1, 0] rfl ?_
          exact absurd (he.symm.trans (by simp only [f_X9_judge_L10_E, if_neg c2, if_pos c3] : f_X9_judge_L10_E p1 0 l3_10 l4_10 = false)) (by decide)
    | succ r10 ih =>
      intro l3_10 l4_10 out he ho hk
      refine vv_iload hC 4 dX9_judge_10 rfl ?_
      refine vv_iload_n hC 1 dX9_judge_12 rfl rfl ?_
      refine vv_icmp_ge hC 39 dX9_judge_13 (by decide) (fun c4 => ?_) (fun c4 => ?_)
      · have c4 : p1 ≤ nI l4_10 := c4
        have ho := ho.trans (by first | (simp only [f_X9_judge_L10, if_pos c4]; done) | rfl | (simp only [f_X9_judge_L10, if_pos c4]; rfl) : _ = (l3_10, l4_10))
        subst ho
        exact hk
      · have c4 : ¬ (p1 ≤ nI l4_10) := c4
        refine vv_iload_n hC 1 dX9_judge_16 rfl rfl ?_
        refine vv_i2l hC dX9_judge_17 ?_
        refine vv_lconst (v := 1) hC dX9_judge_18 (by decide) ?_
        refine vv_ldc2 (v := (4)) hC lk_l_X9_195 dX9_judge_19 ?_
        refine vv_callS hC dX9_judge_22 md_X9_in lk_m_X9_76 lk_t_X9_in (As := [.long p1.toInt64, .long 1, .long 4]) (rest := []) (c_X9_in g w1 p1.toInt64 1 4) rfl rfl (Nat.le_of_ble_eq_true rfl) ⟨by decide, by decide, by decide, by decide⟩ (fun r w9 hq => ?_)
        obtain ⟨rfl, rfl⟩ := hq
        show V g X 9 w1 0 0 25 [(0, .ref (B 0)), (1, .int p1), (2, .int p2), (3, .int (nI l3_10)), (4, .int (nI l4_10))] [.int (bI (f_X9_in p1.toInt64 1 4))]
        refine vv_if_eq hC 39 dX9_judge_25 (by decide) (fun c5 => ?_) (fun c5 => ?_)
        · have c5 : ¬ (f_X9_in p1.toInt64 1 4 = true) := bI_f c5
          have ho := ho.trans (by first | (simp only [f_X9_judge_L10, if_neg c4, if_neg c5]; done) | rfl | (simp only [f_X9_judge_L10, if_neg c4, if_neg c5]; rfl) : _ = (l3_10, l4_10))
          subst ho
          exact hk
        · have c5 : f_X9_in p1.toInt64 1 4 = true := bI_t c5
          have bc5 := inC_b (lo := 1) (hi := 4) (by decide) (by decide) (by decide) c5
          refine vv_iload_n hC 3 dX9_judge_28 rfl rfl ?_
          refine vv_bipush (v := (100)) hC dX9_judge_29 (by decide) ?_
          refine vv_imul hC dX9_judge_31 ?_
          refine vv_topi (nI (l3_10 * 100)) (pk_mul l3_10 100) ?_
          refine vv_istore_n (lv2 := [(3, .int (nI (l3_10 * 100))), (0, .ref (B 0)), (1, .int p1), (2, .int p2), (4, .int (nI l4_10))]) hC dX9_judge_32 rfl (by decide) rfl ?_
          refine vv_iinc (lv2 := [(4, .int (nI (l4_10 + 1))), (3, .int (nI (l3_10 * 100))), (0, .ref (B 0)), (1, .int p1), (2, .int p2)]) hC 4 dX9_judge_33 rfl (nI_add l4_10 1) (by decide) rfl ?_
          refine vv_goto hC 10 dX9_judge_36 (by decide) ?_
          refine vv_lv [2, 3, 4, 1, 0] rfl ?_
          exact ih (l3_10 * 100) (l4_10 + 1) out (Eq.trans (Eq.symm (by first | (simp only [f_X9_judge_L10_E, if_neg c4, if_pos c5]; done) | rfl : f_X9_judge_L10_E p1 (r10 + 1) l3_10 l4_10 = f_X9_judge_L10_E p1 r10 (l3_10 * 100) (l4_10 + 1))) he) (ho.trans (by first | (simp only [f_X9_judge_L10, if_neg c4, if_pos c5]; done) | rfl | (simp only [f_X9_judge_L10, if_neg c4, if_pos c5]; rfl))) hk
  refine vv_lv [2, 3, 4, 1, 0] rfl ?_
  refine hL6 fuelC 1 0 (f_X9_judge_L10 p1 fuelC 1 0) (jg_E _ _ _ (by show 4 ≤ 0 + 8; omega) (by omega)) rfl ?_
  refine vv_iload_n hC 1 dX9_judge_39 rfl rfl ?_
  refine vv_i2l hC dX9_judge_40 ?_
  refine vv_lconst (v := 1) hC dX9_judge_41 (by decide) ?_
  refine vv_ldc2 (v := (4)) hC lk_l_X9_195 dX9_judge_42 ?_
  refine vv_callS hC dX9_judge_45 md_X9_in lk_m_X9_76 lk_t_X9_in (As := [.long p1.toInt64, .long 1, .long 4]) (rest := []) (c_X9_in g w1 p1.toInt64 1 4) rfl rfl (Nat.le_of_ble_eq_true rfl) ⟨by decide, by decide, by decide, by decide⟩ (fun r w9 hq => ?_)
  obtain ⟨rfl, rfl⟩ := hq
  show V g X 9 w1 0 0 48 [(0, .ref (B 0)), (1, .int p1), (2, .int p2), (3, .int (nI ((f_X9_judge_L10 p1 fuelC 1 0).1))), (4, .int (nI ((f_X9_judge_L10 p1 fuelC 1 0).2)))] [.int (bI (f_X9_in p1.toInt64 1 4))]
  refine vv_if_eq hC 64 dX9_judge_48 (by decide) (fun c7 => ?_) (fun c7 => ?_)
  · have c7 : ¬ (f_X9_in p1.toInt64 1 4 = true) := bI_f c7
    refine vv_bipush (v := (-2)) hC dX9_judge_64 (by decide) ?_
    have hf : (f_X9_judge x_houses x_people now home path p1 p2) = ((-2), 0) := by first | (simp only [f_X9_judge, if_neg c7]; done) | rfl | (simp only [f_X9_judge, if_neg c7]; rfl)
    refine vv_iret hC hR rfl dX9_judge_66 (by omega) (by omega) ?_
    rw [hf]
    try dsimp only
    exact ⟨rfl, h_m, hE⟩
  · have c7 : f_X9_in p1.toInt64 1 4 = true := bI_t c7
    have bc7 := inC_b (lo := 1) (hi := 4) (by decide) (by decide) (by decide) c7
    have hA := jg_A c7
    refine vv_iload_n hC 2 dX9_judge_51 rfl rfl ?_
    refine vv_i2l hC dX9_judge_52 ?_
    refine vv_lconst (v := 0) hC dX9_judge_53 (by decide) ?_
    refine vv_iload_n hC 3 dX9_judge_54 rfl rfl ?_
    refine vv_iconst (v := 1) hC dX9_judge_55 (by decide) ?_
    refine vv_isub hC dX9_judge_56 ?_
    refine vv_i2l hC dX9_judge_57 ?_
    refine vv_callS hC dX9_judge_58 md_X9_in lk_m_X9_76 lk_t_X9_in (As := [.long p2.toInt64, .long 0, .long ((nI ((f_X9_judge_L10 p1 fuelC 1 0).1) - 1).toInt64)]) (rest := []) (c_X9_in g w1 p2.toInt64 0 ((nI ((f_X9_judge_L10 p1 fuelC 1 0).1) - 1).toInt64)) rfl rfl (Nat.le_of_ble_eq_true rfl) ⟨by decide, by decide, by decide, by decide⟩ (fun r w9 hq => ?_)
    obtain ⟨rfl, rfl⟩ := hq
    show V g X 9 w1 0 0 61 [(0, .ref (B 0)), (1, .int p1), (2, .int p2), (3, .int (nI ((f_X9_judge_L10 p1 fuelC 1 0).1))), (4, .int (nI ((f_X9_judge_L10 p1 fuelC 1 0).2)))] [.int (bI (f_X9_in p2.toInt64 0 ((nI ((f_X9_judge_L10 p1 fuelC 1 0).1) - 1).toInt64)))]
    refine vv_if_ne hC 67 dX9_judge_61 (by decide) (fun c8 => ?_) (fun c8 => ?_)
    · have c8 : f_X9_in p2.toInt64 0 ((nI ((f_X9_judge_L10 p1 fuelC 1 0).1) - 1).toInt64) = true := bI_t c8
      have bc8 := inN_b (by omega) c8
      refine vv_iconst (v := 0) hC dX9_judge_67 (by decide) ?_
      refine vv_istore (lv2 := [(4, .int 0), (0, .ref (B 0)), (1, .int p1), (2, .int p2), (3, .int (nI ((f_X9_judge_L10 p1 fuelC 1 0).1)))]) hC dX9_judge_68 (by decide) rfl ?_
      refine vv_iload_n hC 3 dX9_judge_70 rfl rfl ?_
      refine vv_topi (nI (tn p2)) (inN_e (by omega) c8) ?_
      refine vv_istore (lv2 := [(5, .int (nI (tn p2))), (4, .int 0), (0, .ref (B 0)), (1, .int p1), (2, .int p2), (3, .int (nI ((f_X9_judge_L10 p1 fuelC 1 0).1)))]) hC dX9_judge_71 (by decide) rfl ?_
      refine vv_iconst (v := 0) hC dX9_judge_73 (by decide) ?_
      refine vv_istore (lv2 := [(6, .int 0), (5, .int (nI (tn p2))), (4, .int 0), (0, .ref (B 0)), (1, .int p1), (2, .int p2), (3, .int (nI ((f_X9_judge_L10 p1 fuelC 1 0).1)))]) hC dX9_judge_74 (by decide) rfl ?_
      have hL13 : ∀ (r76 k76 : Nat) (l3_76 : Nat) (l4_76 : Int32) (l5_76 : Nat), k76 + r76 = tn p1 → l3_76 = 100 ^ (tn p1 - k76) → l5_76 < l3_76 → (f_X9_judge x_houses x_people now home path p1 p2) = f_X9_judge_L76 x_houses x_people now home path r76 k76 l3_76 l4_76 l5_76 → V g X 9 w1 0 0 76 [(0, .ref (B 0)), (1, .int p1), (2, .int p2), (3, .int (nI l3_76)), (4, .int l4_76), (5, .int (nI l5_76)), (6, .int (nI k76))] [] := by
        intro r76
        induction r76 with
        | zero =>
          intro k76 l3_76 l4_76 l5_76 hb hal hlf ho 
          refine vv_iload hC 6 dX9_judge_76 rfl ?_
          refine vv_iload_n hC 1 dX9_judge_78 rfl rfl ?_
          refine vv_topi (nI (tn p1)) (inC_e (lo := 1) (hi := 4) (by decide) (by decide) (by decide) c7) ?_
          refine vv_icmp_ge hC 171 dX9_judge_79 (by decide) (fun c => ?_) (fun c => False.elim (c ((nI_le_ (a := tn p1) (b := k76) (by omega) (by omega)).mpr (by omega))))
          refine vv_bipush (v := (-9)) hC dX9_judge_171 (by decide) ?_
          have hf : (f_X9_judge x_houses x_people now home path p1 p2) = ((-9), 0) := ho.trans (by first | (simp only [f_X9_judge_L76]; done) | rfl | (simp only [f_X9_judge_L76]; rfl))
          refine vv_iret hC hR rfl dX9_judge_173 (by omega) (by omega) ?_
          rw [hf]
          try dsimp only
          exact ⟨rfl, h_m, hE⟩
        | succ r76 ih =>
          intro k76 l3_76 l4_76 l5_76 hb hal hlf ho 
          refine vv_iload hC 6 dX9_judge_76 rfl ?_
          refine vv_iload_n hC 1 dX9_judge_78 rfl rfl ?_
          refine vv_topi (nI (tn p1)) (inC_e (lo := 1) (hi := 4) (by decide) (by decide) (by decide) c7) ?_
          refine vv_icmp_ge hC 171 dX9_judge_79 (by decide) (fun c => absurd ((nI_le_ (a := tn p1) (b := k76) (by omega) (by omega)).mp c) (by first | omega | decide)) (fun c => ?_)
          have hz := jg_z hal (by omega) (by omega)
          refine vv_iload_n hC 3 dX9_judge_82 rfl rfl ?_
          refine vv_bipush (v := (100)) hC dX9_judge_83 (by decide) ?_
          refine vv_idiv hC dX9_judge_85 (by decide) ?_
          refine vv_topi (nI (l3_76 / 100)) (nI_div (a := l3_76) (d := 100) (by omega) (by omega) (by omega)) ?_
          refine vv_istore_n (lv2 := [(3, .int (nI (l3_76 / 100))), (0, .ref (B 0)), (1, .int p1), (2, .int p2), (4, .int l4_76), (5, .int (nI l5_76)), (6, .int (nI k76))]) hC dX9_judge_86 rfl (by decide) rfl ?_
          refine vv_iload hC 5 dX9_judge_87 rfl ?_
          refine vv_iload_n hC 0 dX9_judge_89 rfl rfl ?_
          have hq := jg_q (l := l5_76) (a := l3_76 / 100) (by omega)
          refine vv_idiv hC dX9_judge_90 (nI_ne0_ (by omega) (by omega)) ?_
          refine vv_topi (nI (l5_76 / (l3_76 / 100))) (nI_div (a := l5_76) (d := l3_76 / 100) (by omega) (by omega) (by omega)) ?_
          refine vv_bipush (v := (10)) hC dX9_judge_91 (by decide) ?_
          refine vv_idiv hC dX9_judge_93 (by decide) ?_
          refine vv_topi (nI ((l5_76 / (l3_76 / 100)) / 10)) (nI_div (a := l5_76 / (l3_76 / 100)) (d := 10) (by omega) (by omega) (by omega)) ?_
          refine vv_istore (lv2 := [(7, .int (nI ((l5_76 / (l3_76 / 100)) / 10))), (3, .int (nI (l3_76 / 100))), (0, .ref (B 0)), (1, .int p1), (2, .int p2), (4, .int l4_76), (5, .int (nI l5_76)), (6, .int (nI k76))]) hC dX9_judge_94 (by decide) rfl ?_
          refine vv_iload hC 6 dX9_judge_96 rfl ?_
          refine vv_iload_n hC 1 dX9_judge_98 rfl rfl ?_
          refine vv_idiv hC dX9_judge_99 (nI_ne0_ (by omega) (by omega)) ?_
          refine vv_topi (nI (l5_76 / (l3_76 / 100))) (nI_div (a := l5_76) (d := l3_76 / 100) (by omega) (by omega) (by omega)) ?_
          refine vv_bipush (v := (10)) hC dX9_judge_100 (by decide) ?_
          refine vv_irem hC dX9_judge_102 (by decide) ?_
          refine vv_topi (nI ((l5_76 / (l3_76 / 100)) % 10)) (nI_rem (a := l5_76 / (l3_76 / 100)) (d := 10) (by omega) (by omega) (by omega)) ?_
          refine vv_istore (lv2 := [(8, .int (nI ((l5_76 / (l3_76 / 100)) % 10))), (7, .int (nI ((l5_76 / (l3_76 / 100)) / 10))), (3, .int (nI (l3_76 / 100))), (0, .ref (B 0)), (1, .int p1), (2, .int p2), (4, .int l4_76), (5, .int (nI l5_76)), (6, .int (nI k76))]) hC dX9_judge_103 (by decide) rfl ?_
          refine vv_iload hC 7 dX9_judge_105 rfl ?_
          refine vv_iload_n hC 2 dX9_judge_107 rfl rfl ?_
          refine vv_irem hC dX9_judge_108 (nI_ne0_ (by omega) (by omega)) ?_
          refine vv_topi (nI (l5_76 % (l3_76 / 100))) (nI_rem (a := l5_76) (d := l3_76 / 100) (by omega) (by omega) (by omega)) ?_
          refine vv_istore (lv2 := [(5, .int (nI (l5_76 % (l3_76 / 100)))), (8, .int (nI ((l5_76 / (l3_76 / 100)) % 10))), (7, .int (nI ((l5_76 / (l3_76 / 100)) / 10))), (3, .int (nI (l3_76 / 100))), (0, .ref (B 0)), (1, .int p1), (2, .int p2), (4, .int l4_76), (6, .int (nI k76))]) hC dX9_judge_109 (by decide) rfl ?_
          refine vv_aload_n hC 4 dX9_judge_111 rfl rfl ?_
          refine vv_iload hC 2 dX9_judge_112 rfl ?_
          refine vv_callV hC dX9_judge_114 md_X9_noOne lk_m_X9_168 lk_i_X9_noOne lk_s_X9_noOne h_m rfl (As := [.int (nI ((l5_76 / (l3_76 / 100)) / 10))]) (rest := []) (c_X9_noOne g w1 B hB 0 x_houses x_people x_paths x_acts x_size x_at x_readHouses x_readPeople x_readPaths x_sights x_drawn (nI ((l5_76 / (l3_76 / 100)) / 10)) h_m) rfl rfl (Nat.le_of_ble_eq_true rfl) ⟨by decide, by decide, by decide, by decide⟩ (fun r w9 hq => ?_)
          obtain ⟨rfl, rfl⟩ := hq
          show V g X 9 w1 0 0 117 [(5, .int (nI (l5_76 % (l3_76 / 100)))), (8, .int (nI ((l5_76 / (l3_76 / 100)) % 10))), (7, .int (nI ((l5_76 / (l3_76 / 100)) / 10))), (3, .int (nI (l3_76 / 100))), (0, .ref (B 0)), (1, .int p1), (2, .int p2), (4, .int l4_76), (6, .int (nI k76))] [.int (bI (f_X9_noOne x_people (nI ((l5_76 / (l3_76 / 100)) / 10))))]
          refine vv_if_ne hC 153 dX9_judge_117 (by decide) (fun c9 => ?_) (fun c9 => ?_)
          · have c9 : f_X9_noOne x_people (nI ((l5_76 / (l3_76 / 100)) / 10)) = true := bI_t c9
            refine vv_iload hC 8 dX9_judge_153 rfl ?_
            have hf : (f_X9_judge x_houses x_people now home path p1 p2) = (nI k76, 0) := ho.trans (by first | (simp only [f_X9_judge_L76, if_pos c9]; done) | rfl | (simp only [f_X9_judge_L76, if_pos c9]; rfl))
            refine vv_iret hC hR rfl dX9_judge_155 (by omega) (by omega) ?_
            rw [hf]
            try dsimp only
            exact ⟨rfl, h_m, hE⟩
          · have c9 : ¬ (f_X9_noOne x_people (nI ((l5_76 / (l3_76 / 100)) / 10)) = true) := bI_f c9
            have bc9 := noOneN_b (by omega) (by omega) c9
            refine vv_aload_n hC 4 dX9_judge_120 rfl rfl ?_
            refine vv_iload hC 1 dX9_judge_121 rfl ?_
            refine vv_callV hC dX9_judge_123 md_X9_noHouse lk_m_X9_162 lk_i_X9_noHouse lk_s_X9_noHouse h_m rfl (As := [.int (nI ((l5_76 / (l3_76 / 100)) % 10))]) (rest := []) (c_X9_noHouse g w1 B hB 0 x_houses x_people x_paths x_acts x_size x_at x_readHouses x_readPeople x_readPaths x_sights x_drawn (nI ((l5_76 / (l3_76 / 100)) % 10)) h_m) rfl rfl (Nat.le_of_ble_eq_true rfl) ⟨by decide, by decide, by decide, by decide⟩ (fun r w9 hq => ?_)
            obtain ⟨rfl, rfl⟩ := hq
            show V g X 9 w1 0 0 126 [(5, .int (nI (l5_76 % (l3_76 / 100)))), (8, .int (nI ((l5_76 / (l3_76 / 100)) % 10))), (7, .int (nI ((l5_76 / (l3_76 / 100)) / 10))), (3, .int (nI (l3_76 / 100))), (0, .ref (B 0)), (1, .int p1), (2, .int p2), (4, .int l4_76), (6, .int (nI k76))] [.int (bI (f_X9_noHouse x_houses (nI ((l5_76 / (l3_76 / 100)) % 10))))]
            refine vv_if_ne hC 153 dX9_judge_126 (by decide) (fun c10 => ?_) (fun c10 => ?_)
            · have c10 : f_X9_noHouse x_houses (nI ((l5_76 / (l3_76 / 100)) % 10)) = true := bI_t c10
              refine vv_iload hC 8 dX9_judge_153 rfl ?_
              have hf : (f_X9_judge x_houses x_people now home path p1 p2) = (nI k76, 0) := ho.trans (by first | (simp only [f_X9_judge_L76, if_neg c9, if_pos c10]; done) | rfl | (simp only [f_X9_judge_L76, if_neg c9, if_pos c10]; rfl))
              refine vv_iret hC hR rfl dX9_judge_155 (by omega) (by omega) ?_
              rw [hf]
              try dsimp only
              exact ⟨rfl, h_m, hE⟩
            · have c10 : ¬ (f_X9_noHouse x_houses (nI ((l5_76 / (l3_76 / 100)) % 10)) = true) := bI_f c10
              have bc10 := noHouseN_b (by omega) (by omega) c10
              refine vv_iload hC 7 dX9_judge_129 rfl ?_
              refine vv_iload hC 2 dX9_judge_131 rfl ?_
              refine vv_callS hC dX9_judge_133 md_X9_has lk_m_X9_127 lk_t_X9_has (As := [.int l4_76, .int (nI ((l5_76 / (l3_76 / 100)) / 10))]) (rest := []) (c_X9_has g w1 l4_76 (nI ((l5_76 / (l3_76 / 100)) / 10))) rfl rfl (Nat.le_of_ble_eq_true rfl) ⟨by decide, by decide, by decide, by decide⟩ (fun r w9 hq => ?_)
              obtain ⟨rfl, rfl⟩ := hq
              show V g X 9 w1 0 0 136 [(5, .int (nI (l5_76 % (l3_76 / 100)))), (8, .int (nI ((l5_76 / (l3_76 / 100)) % 10))), (7, .int (nI ((l5_76 / (l3_76 / 100)) / 10))), (3, .int (nI (l3_76 / 100))), (0, .ref (B 0)), (1, .int p1), (2, .int p2), (4, .int l4_76), (6, .int (nI k76))] [.int (bI (f_X9_has l4_76 (nI ((l5_76 / (l3_76 / 100)) / 10))))]
              refine vv_if_ne hC 153 dX9_judge_136 (by decide) (fun c11 => ?_) (fun c11 => ?_)
              · have c11 : f_X9_has l4_76 (nI ((l5_76 / (l3_76 / 100)) / 10)) = true := bI_t c11
                refine vv_iload hC 8 dX9_judge_153 rfl ?_
                have hf : (f_X9_judge x_houses x_people now home path p1 p2) = (nI k76, 0) := ho.trans (by first | (simp only [f_X9_judge_L76, if_neg c9, if_neg c10, if_pos c11]; done) | rfl | (simp only [f_X9_judge_L76, if_neg c9, if_neg c10, if_pos c11]; rfl))
                refine vv_iret hC hR rfl dX9_judge_155 (by omega) (by omega) ?_
                rw [hf]
                try dsimp only
                exact ⟨rfl, h_m, hE⟩
              · have c11 : ¬ (f_X9_has l4_76 (nI ((l5_76 / (l3_76 / 100)) / 10)) = true) := bI_f c11
                refine vv_aload_n hC 4 dX9_judge_139 rfl rfl ?_
                refine vv_iload hC 2 dX9_judge_140 rfl ?_
                refine vv_callV hC dX9_judge_142 md_X9_mayOf lk_m_X9_178 lk_i_X9_mayOf lk_s_X9_mayOf h_m rfl (As := [.int (nI ((l5_76 / (l3_76 / 100)) / 10))]) (rest := []) (c_X9_mayOf g w1 B hB 0 x_houses x_people x_paths x_acts x_size x_at x_readHouses x_readPeople x_readPaths x_sights x_drawn now home path ((l5_76 / (l3_76 / 100)) / 10) (by omega) (by omega) (hom) h_m h_now h_home h_path) rfl rfl (Nat.le_of_ble_eq_true rfl) ⟨by decide, by decide, by decide, by decide⟩ (fun r w9 hq => ?_)
                obtain ⟨rfl, rfl⟩ := hq
                show V g X 9 w1 0 0 145 [(5, .int (nI (l5_76 % (l3_76 / 100)))), (8, .int (nI ((l5_76 / (l3_76 / 100)) % 10))), (7, .int (nI ((l5_76 / (l3_76 / 100)) / 10))), (3, .int (nI (l3_76 / 100))), (0, .ref (B 0)), (1, .int p1), (2, .int p2), (4, .int l4_76), (6, .int (nI k76))] [.int (f_X9_mayOf x_houses now home path ((l5_76 / (l3_76 / 100)) / 10))]
                refine vv_iload hC 1 dX9_judge_145 rfl ?_
                refine vv_callS hC dX9_judge_147 md_X9_has lk_m_X9_127 lk_t_X9_has (As := [.int (f_X9_mayOf x_houses now home path ((l5_76 / (l3_76 / 100)) / 10)), .int (nI ((l5_76 / (l3_76 / 100)) % 10))]) (rest := []) (c_X9_has g w1 (f_X9_mayOf x_houses now home path ((l5_76 / (l3_76 / 100)) / 10)) (nI ((l5_76 / (l3_76 / 100)) % 10))) rfl rfl (Nat.le_of_ble_eq_true rfl) ⟨by decide, by decide, by decide, by decide⟩ (fun r w9 hq => ?_)
                obtain ⟨rfl, rfl⟩ := hq
                show V g X 9 w1 0 0 150 [(5, .int (nI (l5_76 % (l3_76 / 100)))), (8, .int (nI ((l5_76 / (l3_76 / 100)) % 10))), (7, .int (nI ((l5_76 / (l3_76 / 100)) / 10))), (3, .int (nI (l3_76 / 100))), (0, .ref (B 0)), (1, .int p1), (2, .int p2), (4, .int l4_76), (6, .int (nI k76))] [.int (bI (f_X9_has (f_X9_mayOf x_houses now home path ((l5_76 / (l3_76 / 100)) / 10)) (nI ((l5_76 / (l3_76 / 100)) % 10))))]
                refine vv_if_ne hC 156 dX9_judge_150 (by decide) (fun c12 => ?_) (fun c12 => ?_)
                · have c12 : f_X9_has (f_X9_mayOf x_houses now home path ((l5_76 / (l3_76 / 100)) / 10)) (nI ((l5_76 / (l3_76 / 100)) % 10)) = true := bI_t c12
                  refine vv_iload hC 7 dX9_judge_156 rfl ?_
                  refine vv_iconst (v := 1) hC dX9_judge_158 (by decide) ?_
                  refine vv_iload hC 2 dX9_judge_159 rfl ?_
                  refine vv_ishl hC dX9_judge_161 ?_
                  refine vv_ior hC dX9_judge_162 ?_
                  refine vv_istore (lv2 := [(4, .int (l4_76 ||| ((1 : Int32) <<< (nI ((l5_76 / (l3_76 / 100)) / 10) &&& 31)))), (5, .int (nI (l5_76 % (l3_76 / 100)))), (8, .int (nI ((l5_76 / (l3_76 / 100)) % 10))), (7, .int (nI ((l5_76 / (l3_76 / 100)) / 10))), (3, .int (nI (l3_76 / 100))), (0, .ref (B 0)), (1, .int p1), (2, .int p2), (6, .int (nI k76))]) hC dX9_judge_163 (by decide) rfl ?_
                  refine vv_iinc (lv2 := [(6, .int (nI (k76 + 1))), (4, .int (l4_76 ||| ((1 : Int32) <<< (nI ((l5_76 / (l3_76 / 100)) / 10) &&& 31)))), (5, .int (nI (l5_76 % (l3_76 / 100)))), (8, .int (nI ((l5_76 / (l3_76 / 100)) % 10))), (7, .int (nI ((l5_76 / (l3_76 / 100)) / 10))), (3, .int (nI (l3_76 / 100))), (0, .ref (B 0)), (1, .int p1), (2, .int p2)]) hC 8 dX9_judge_165 rfl (nI_add k76 1) (by decide) rfl ?_
                  refine vv_goto hC 76 dX9_judge_168 (by decide) ?_
                  refine vv_lv [6, 7, 8, 5, 1, 2, 0] rfl ?_
                  exact ih (k76 + 1) (l3_76 / 100) (l4_76 ||| ((1 : Int32) <<< (nI ((l5_76 / (l3_76 / 100)) / 10) &&& 31))) (l5_76 % (l3_76 / 100)) (by omega) (hz.2.1) (Nat.mod_lt _ (by omega)) (ho.trans (by first | (simp only [f_X9_judge_L76, if_neg c9, if_neg c10, if_neg c11, if_pos c12]; done) | rfl | (simp only [f_X9_judge_L76, if_neg c9, if_neg c10, if_neg c11, if_pos c12]; rfl)))
                · have c12 : ¬ (f_X9_has (f_X9_mayOf x_houses now home path ((l5_76 / (l3_76 / 100)) / 10)) (nI ((l5_76 / (l3_76 / 100)) % 10)) = true) := bI_f c12
                  refine vv_iload hC 8 dX9_judge_153 rfl ?_
                  have hf : (f_X9_judge x_houses x_people now home path p1 p2) = (nI k76, 0) := ho.trans (by first | (simp only [f_X9_judge_L76, if_neg c9, if_neg c10, if_neg c11, if_neg c12]; done) | rfl | (simp only [f_X9_judge_L76, if_neg c9, if_neg c10, if_neg c11, if_neg c12]; rfl))
                  refine vv_iret hC hR rfl dX9_judge_155 (by omega) (by omega) ?_
                  rw [hf]
                  try dsimp only
                  exact ⟨rfl, h_m, hE⟩
      refine vv_lv [3, 4, 5, 6, 2, 1, 0] rfl ?_
      exact hL13 (tn p1) 0 ((f_X9_judge_L10 p1 fuelC 1 0).1) 0 (tn p2) (by omega) (hA.1) (by omega) (by first | (simp only [f_X9_judge, if_pos c7, if_pos c8]; done) | rfl | (simp only [f_X9_judge, if_pos c7, if_pos c8]; rfl))
    · have c8 : ¬ (f_X9_in p2.toInt64 0 ((nI ((f_X9_judge_L10 p1 fuelC 1 0).1) - 1).toInt64) = true) := bI_f c8
      refine vv_bipush (v := (-2)) hC dX9_judge_64 (by decide) ?_
      have hf : (f_X9_judge x_houses x_people now home path p1 p2) = ((-2), 0) := by first | (simp only [f_X9_judge, if_pos c7, if_neg c8]; done) | rfl | (simp only [f_X9_judge, if_pos c7, if_neg c8]; rfl)
      refine vv_iret hC hR rfl dX9_judge_66 (by omega) (by omega) ?_
      rw [hf]
      try dsimp only
      exact ⟨rfl, h_m, hE⟩
