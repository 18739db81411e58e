/-! the loop of the law, and its start -/
theorem WX.ex {g : GT} {A : Nat → Nat} {vi cv : Nat} {kS : Int32} {seed : Int64} {tl : Nat} {bytes : Nat → Int32} {v : TVi} {now thought : TN} {st ct : Nat} {before slots steps : Nat → Option Nat} {bs ss : Nat → TN} {sc : Nat} {kinds moons places values : Nat → Int32} {ta : TTa} {fits : Nat → Int64} {left needs : Nat → Int32} {w : Wd} (h : WX g A vi cv kS seed tl bytes v now thought st ct before slots steps bs ss sc kinds moons places values ta fits left needs w) : ∀ i, uA i → ∃ e, w (A i) = some e := by
  obtain ⟨xA0, xA1, xA2, xvi, xA3, xA4, xA5, xA6, hbef, xbs, xA7, hslo, xss, xA8, xA9, xA10, xA11, xA12, xA13, xA14, xA15, xA16, xA17, xA18, hste, xst⟩ := h
  intro i hi
  rcases (show i = 0 ∨ i = 1 ∨ i = 2 ∨ i = 3 ∨ i = 4 ∨ i = 5 ∨ i = 6 ∨ i = 7 ∨ i = 8 ∨ i = 9 ∨ i = 10 ∨ i = 11 ∨ i = 12 ∨ i = 13 ∨ i = 14 ∨ i = 15 ∨ i = 16 ∨ i = 17 ∨ i = 18 ∨ (20 ≤ i ∧ i < 36) ∨ (36 ≤ i ∧ i < 38) ∨ (40 ≤ i ∧ i < 56) by unfold uA at hi; omega) with rfl | rfl | rfl | rfl | rfl | rfl | rfl | rfl | rfl | rfl | rfl | rfl | rfl | rfl | rfl | rfl | rfl | rfl | rfl | ⟨h1, h2⟩ | ⟨h1, h2⟩ | ⟨h1, h2⟩
  · exact ⟨_, xA0⟩
  · exact ⟨_, xA1⟩
  · exact ⟨_, xA2⟩
  · exact ⟨_, xA3⟩
  · exact ⟨_, xA4⟩
  · exact ⟨_, xA5⟩
  · exact ⟨_, xA6⟩
  · exact ⟨_, xA7⟩
  · exact ⟨_, xA8⟩
  · exact ⟨_, xA9⟩
  · exact ⟨_, xA10⟩
  · exact ⟨_, xA11⟩
  · exact ⟨_, xA12⟩
  · exact ⟨_, xA13⟩
  · exact ⟨_, xA14⟩
  · exact ⟨_, xA15⟩
  · exact ⟨_, xA16⟩
  · exact ⟨_, xA17⟩
  · exact ⟨_, xA18⟩
  · have y := xbs (i - 20) (by omega)
    rw [show 20 + (i - 20) = i by omega] at y
    exact ⟨_, y⟩
  · have y := xss (i - 36) (by omega)
    rw [show 36 + (i - 36) = i by omega] at y
    exact ⟨_, y⟩
  · obtain ⟨m, y⟩ := xst (i - 40) (by omega)
    rw [show 40 + (i - 40) = i by omega] at y
    exact ⟨_, y⟩
theorem and63 (x : Int32) : ∃ c, c < 64 ∧ x &&& 63 = nI c := by
  refine ⟨(x &&& 63).toBitVec.toNat, ?_, (nI_toNat _).symm⟩
  show (x.toBitVec &&& (63 : Int32).toBitVec).toNat < 64
  rw [BitVec.toNat_and]
  exact Nat.and_lt_two_pow _ (n := 6) (by decide)
theorem sub4 {L i : Nat} (hL : L ≤ 256) (hi : i ≤ 300) (h : ¬ (nI L - 4 : Int32) < nI i) : i + 4 ≤ L := by
  by_cases c : 4 ≤ L
  · rw [show (nI L - 4 : Int32) = nI (L - 4) from pk_sub (b := 4) c, nI_lt_ (by omega) (by omega)] at h
    omega
  · have all : ∀ L, L < 4 → (nI L - 4 : Int32) < 0 := by decide +kernel
    exact absurd (Int32.lt_of_lt_of_le (all L (by omega)) (nn0 (by omega))) h
theorem toI64 : ∀ c, c < 64 → (nI c).toInt = (c : Int) := by decide +kernel
set_option maxHeartbeats 4000000 in
set_option maxRecDepth 100000 in
theorem law_body {g : GT} {X : CtxT} {A B : Nat → Nat} {b L : Nat} {xs : Nat → Int32} (hC : Cx g X RL cL_law 4 ret room_1) (hX : SCR X b L xs) (hg : b < gB g) (hL : L ≤ 256) (hJ : IJ A B) (hE : ∀ (w : Wd) (k n : Nat) (lv : List (Nat × Value)), k ≤ 600000 → n ≤ 7302250 → V g X 4 w k n 1229 lv [.int 1]) :
    ∀ (r i : Nat) (w : Wd) (k n : Nat), LwS g A B w → L ≤ i + r → i ≤ 300 → k ≤ 200 + i → n ≤ 20000 + 16 * i → V g X 4 w k n 18 [(3, .int (nI i)), (2, .ref (B 0)), (1, .ref (A 0)), (0, .ref b)] [] := by
  intro r
  induction r with
  | zero =>
    intro i w k n hS h1 h2 h3 h4
    refine vv_iload_n hC 0 dL_law_18 rfl rfl ?_
    refine vv_aload_n hC 3 dL_law_19 rfl rfl ?_
    refine vv_slen hC hX hg dL_law_20 ?_
    refine vv_iconst (v := 4) hC dL_law_21 rfl ?_
    refine vv_isub hC dL_law_22 ?_
    refine vv_icmp_gt hC 1228 dL_law_23 (by decide) (fun _ => ?_) (fun z => ?_)
    · refine vv_iconst (v := 1) hC dL_law_1228 rfl ?_
      exact hE _ _ _ _ (by omega) (by omega)
    · have := sub4 hL h2 z
      omega
  | succ r ih =>
    intro i w k n hS h1 h2 h3 h4
    refine vv_iload_n hC 0 dL_law_18 rfl rfl ?_
    refine vv_aload_n hC 3 dL_law_19 rfl rfl ?_
    refine vv_slen hC hX hg dL_law_20 ?_
    refine vv_iconst (v := 4) hC dL_law_21 rfl ?_
    refine vv_isub hC dL_law_22 ?_
    refine vv_icmp_gt hC 1228 dL_law_23 (by decide) (fun _ => ?_) (fun z => ?_)
    · refine vv_iconst (v := 1) hC dL_law_1228 rfl ?_
      exact hE _ _ _ _ (by omega) (by omega)
    · have hi4 := sub4 hL h2 z
      have next : ∀ (w2 : Wd) (k2 n2 : Nat), LwS g A B w2 → k2 ≤ k + 2 → n2 ≤ n + 16 → V g X 4 w2 k2 n2 1222 [(3, .int (nI i)), (2, .ref (B 0)), (1, .ref (A 0)), (0, .ref b)] [] := by
        intro w2 k2 n2 hS2 hk2 hn2
        refine vv_iinc (lv2 := [(3, .int (nI (i + 4))), (2, .ref (B 0)), (1, .ref (A 0)), (0, .ref b)]) hC 0 dL_law_1222 rfl (nI_add i 4) (by decide) rfl ?_
        refine vv_goto hC 18 dL_law_1225 (by decide) ?_
        exact ih (i + 4) w2 k2 n2 hS2 (by omega) (by omega) (by omega) (by omega)
      refine vv_aload_n hC 3 dL_law_26 rfl rfl ?_
      refine vv_iload_n hC 0 dL_law_27 rfl rfl ?_
      refine vv_sld hC hX hg i (by omega) (by omega) dL_law_28 ?_
      refine vv_bipush (v := 63) hC dL_law_29 (by decide) ?_
      refine vv_iand hC dL_law_31 ?_
      obtain ⟨c, hc, ec⟩ := and63 (xs i)
      rw [ec]
      by_cases c38 : c < 38
      · rcases (show c = 0 ∨ c = 1 ∨ c = 2 ∨ c = 3 ∨ c = 4 ∨ c = 5 ∨ c = 6 ∨ c = 7 ∨ c = 8 ∨ c = 9 ∨ c = 10 ∨ c = 11 ∨ c = 12 ∨ c = 13 ∨ c = 14 ∨ c = 15 ∨ c = 16 ∨ c = 17 ∨ c = 18 ∨ c = 19 ∨ c = 20 ∨ c = 21 ∨ c = 22 ∨ c = 23 ∨ c = 24 ∨ c = 25 ∨ c = 26 ∨ c = 27 ∨ c = 28 ∨ c = 29 ∨ c = 30 ∨ c = 31 ∨ c = 32 ∨ c = 33 ∨ c = 34 ∨ c = 35 ∨ c = 36 ∨ c = 37 by omega) with rfl | rfl | rfl | rfl | rfl | rfl | rfl | rfl | rfl | rfl | rfl | rfl | rfl | rfl | rfl | rfl | rfl | rfl | rfl | rfl | rfl | rfl | rfl | rfl | rfl | rfl | rfl | rfl | rfl | rfl | rfl | rfl | rfl | rfl | rfl | rfl | rfl | rfl
        · refine vv_tableIn hC 200 dL_law_32 (by decide) (by decide) rfl (by decide) ?_
          exact op_write hC hX hg hL hJ hS hi4 (by omega) (by omega) next
        · refine vv_tableIn hC 263 dL_law_32 (by decide) (by decide) rfl (by decide) ?_
          exact op_wipe hC hX hg hL hJ hS hi4 (by omega) (by omega) next
        · refine vv_tableIn hC 276 dL_law_32 (by decide) (by decide) rfl (by decide) ?_
          exact op_fault hC hX hg hL hJ hS hi4 (by omega) (by omega) next
        · refine vv_tableIn hC 289 dL_law_32 (by decide) (by decide) rfl (by decide) ?_
          exact op_village hC hX hg hL hJ hS hi4 (by omega) (by omega) next
        · refine vv_tableIn hC 302 dL_law_32 (by decide) (by decide) rfl (by decide) ?_
          exact op_house hC hX hg hL hJ hS hi4 (by omega) (by omega) next
        · refine vv_tableIn hC 335 dL_law_32 (by decide) (by decide) rfl (by decide) ?_
          exact op_person hC hX hg hL hJ hS hi4 (by omega) (by omega) next
        · refine vv_tableIn hC 368 dL_law_32 (by decide) (by decide) rfl (by decide) ?_
          exact op_may hC hX hg hL hJ hS hi4 (by omega) (by omega) next
        · refine vv_tableIn hC 391 dL_law_32 (by decide) (by decide) rfl (by decide) ?_
          exact op_prey hC hX hg hL hJ hS hi4 (by omega) (by omega) next
        · refine vv_tableIn hC 424 dL_law_32 (by decide) (by decide) rfl (by decide) ?_
          exact op_visit hC hX hg hL hJ hS hi4 (by omega) (by omega) next
        · refine vv_tableIn hC 457 dL_law_32 (by decide) (by decide) rfl (by decide) ?_
          exact op_dawn hC hX hg hL hJ hS hi4 (by omega) (by omega) next
        · refine vv_tableIn hC 470 dL_law_32 (by decide) (by decide) rfl (by decide) ?_
          exact op_hang hC hX hg hL hJ hS hi4 (by omega) (by omega) next
        · refine vv_tableIn hC 493 dL_law_32 (by decide) (by decide) rfl (by decide) ?_
          exact op_bolt hC hX hg hL hJ hS hi4 (by omega) (by omega) next
        · refine vv_tableIn hC 526 dL_law_32 (by decide) (by decide) rfl (by decide) ?_
          exact op_undo hC hX hg hL hJ hS hi4 (by omega) (by omega) next
        · refine vv_tableIn hC 539 dL_law_32 (by decide) (by decide) rfl (by decide) ?_
          exact op_judge hC hX hg hL hJ hS hi4 (by omega) (by omega) next
        · refine vv_tableIn hC 572 dL_law_32 (by decide) (by decide) rfl (by decide) ?_
          exact op_first hC hX hg hL hJ hS hi4 (by omega) (by omega) next
        · refine vv_tableIn hC 595 dL_law_32 (by decide) (by decide) rfl (by decide) ?_
          exact op_line hC hX hg hL hJ hS hi4 (by omega) (by omega) next
        · refine vv_tableIn hC 618 dL_law_32 (by decide) (by decide) rfl (by decide) ?_
          exact op_brood hC hX hg hL hJ hS hi4 (by omega) (by omega) next
        · refine vv_tableIn hC 641 dL_law_32 (by decide) (by decide) rfl (by decide) ?_
          exact op_track hC hX hg hL hJ hS hi4 (by omega) (by omega) next
        · refine vv_tableIn hC 684 dL_law_32 (by decide) (by decide) rfl (by decide) ?_
          exact op_hungry hC hX hg hL hJ hS hi4 (by omega) (by omega) next
        · refine vv_tableIn hC 743 dL_law_32 (by decide) (by decide) rfl (by decide) ?_
          exact op_spoon hC hX hg hL hJ hS hi4 (by omega) (by omega) next
        · refine vv_tableIn hC 792 dL_law_32 (by decide) (by decide) rfl (by decide) ?_
          exact op_unsee hC hX hg hL hJ hS hi4 (by omega) (by omega) next
        · refine vv_tableIn hC 805 dL_law_32 (by decide) (by decide) rfl (by decide) ?_
          exact op_tales hC hX hg hL hJ hS hi4 (by omega) (by omega) next
        · refine vv_tableIn hC 819 dL_law_32 (by decide) (by decide) rfl (by decide) ?_
          exact op_sets hC hX hg hL hJ hS hi4 (by omega) (by omega) next
        · refine vv_tableIn hC 832 dL_law_32 (by decide) (by decide) rfl (by decide) ?_
          exact op_setAt hC hX hg hL hJ hS hi4 (by omega) (by omega) next
        · refine vv_tableIn hC 855 dL_law_32 (by decide) (by decide) rfl (by decide) ?_
          exact op_sure hC hX hg hL hJ hS hi4 (by omega) (by omega) next
        · refine vv_tableIn hC 878 dL_law_32 (by decide) (by decide) rfl (by decide) ?_
          exact op_likely hC hX hg hL hJ hS hi4 (by omega) (by omega) next
        · refine vv_tableIn hC 928 dL_law_32 (by decide) (by decide) rfl (by decide) ?_
          exact op_toTest hC hX hg hL hJ hS hi4 (by omega) (by omega) next
        · refine vv_tableIn hC 941 dL_law_32 (by decide) (by decide) rfl (by decide) ?_
          exact op_tests hC hX hg hL hJ hS hi4 (by omega) (by omega) next
        · refine vv_tableIn hC 954 dL_law_32 (by decide) (by decide) rfl (by decide) ?_
          exact op_vote hC hX hg hL hJ hS hi4 (by omega) (by omega) next
        · refine vv_tableIn hC 977 dL_law_32 (by decide) (by decide) rfl (by decide) ?_
          exact op_hanged hC hX hg hL hJ hS hi4 (by omega) (by omega) next
        · refine vv_tableIn hC 990 dL_law_32 (by decide) (by decide) rfl (by decide) ?_
          exact op_safe hC hX hg hL hJ hS hi4 (by omega) (by omega) next
        · refine vv_tableIn hC 1003 dL_law_32 (by decide) (by decide) rfl (by decide) ?_
          exact op_locked hC hX hg hL hJ hS hi4 (by omega) (by omega) next
        · refine vv_tableIn hC 1016 dL_law_32 (by decide) (by decide) rfl (by decide) ?_
          exact op_danger hC hX hg hL hJ hS hi4 (by omega) (by omega) next
        · refine vv_tableIn hC 1076 dL_law_32 (by decide) (by decide) rfl (by decide) ?_
          exact op_seed hC hX hg hL hJ hS hi4 (by omega) (by omega) next
        · refine vv_tableIn hC 1130 dL_law_32 (by decide) (by decide) rfl (by decide) ?_
          exact op_years hC hX hg hL hJ hS hi4 (by omega) (by omega) next
        · refine vv_tableIn hC 1153 dL_law_32 (by decide) (by decide) rfl (by decide) ?_
          exact op_keep hC hX hg hL hJ hS hi4 (by omega) (by omega) next
        · refine vv_tableIn hC 1176 dL_law_32 (by decide) (by decide) rfl (by decide) ?_
          exact op_again hC hX hg hL hJ hS hi4 (by omega) (by omega) next
        · refine vv_tableIn hC 1199 dL_law_32 (by decide) (by decide) rfl (by decide) ?_
          exact op_count hC hX hg hL hJ hS hi4 (by omega) (by omega) next
      · refine vv_tableOut hC 1222 dL_law_32 (Or.inr (by rw [toI64 c hc]; omega)) (by decide) ?_
        exact next w k n hS (by omega) (by omega)
theorem nfsX8l : ∀ j, j < 11 → defaultValue (tyX8 j) = vp_V ([.null, .null, .null, .null, .null, .null, .int 0, .null, .null, .null, .long 0]) j := by
  intro j hj
  match j, hj with
  | 0, _ => rfl
  | 1, _ => rfl
  | 2, _ => rfl
  | 3, _ => rfl
  | 4, _ => rfl
  | 5, _ => rfl
  | 6, _ => rfl
  | 7, _ => rfl
  | 8, _ => rfl
  | 9, _ => rfl
  | 10, _ => rfl
theorem nfsX9l : ∀ j, j < 31 → defaultValue (tyX9 j) = vp_V ([.int 0, .int 0, .int 0, .int 0, .null, .null, .null, .null, .null, .int 0, .null, .null, .null, .int 0, .int 0, .int 0, .int 0, .int 0, .null, .null, .null, .null, .null, .int 0, .null, .null, .null, .null, .null, .null, .long 0]) j := by
  intro j hj
  match j, hj with
  | 0, _ => rfl
  | 1, _ => rfl
  | 2, _ => rfl
  | 3, _ => rfl
  | 4, _ => rfl
  | 5, _ => rfl
  | 6, _ => rfl
  | 7, _ => rfl
  | 8, _ => rfl
  | 9, _ => rfl
  | 10, _ => rfl
  | 11, _ => rfl
  | 12, _ => rfl
  | 13, _ => rfl
  | 14, _ => rfl
  | 15, _ => rfl
  | 16, _ => rfl
  | 17, _ => rfl
  | 18, _ => rfl
  | 19, _ => rfl
  | 20, _ => rfl
  | 21, _ => rfl
  | 22, _ => rfl
  | 23, _ => rfl
  | 24, _ => rfl
  | 25, _ => rfl
  | 26, _ => rfl
  | 27, _ => rfl
  | 28, _ => rfl
  | 29, _ => rfl
  | 30, _ => rfl
  | m + 31, h => exact absurd h (by omega)
set_option maxHeartbeats 4000000 in
set_option maxRecDepth 100000 in
theorem law_start {g : GT} {X : CtxT} {b L : Nat} {xs : Nat → Int32} (hC : Cx g X RL cL_law 4 ret room_1) (hX : SCR X b L xs) (hg : b < gB g) (hL : L ≤ 256) (hE : ∀ (w : Wd) (k n : Nat) (lv : List (Nat × Value)), k ≤ 600000 → n ≤ 7302250 → V g X 4 w k n 1229 lv [.int 1]) : V g X 4 (fun _ => none) 0 0 0 [(0, .ref b)] [] := by
  refine vv_new (ci := 8) (fs := [.null, .null, .null, .null, .null, .null, .int 0, .null, .null, .null, .long 0]) hC fpcX8 rfl lk_o_L_7 lk_b_X8 lk_z_X8 dL_law_0 nfsX8l (Nat.le_of_ble_eq_true rfl) (Nat.le_of_ble_eq_true rfl) (fun q w1 hq t1 hs => ?_)
  refine vv_dup hC dL_law_3 rfl ?_
  refine vv_callI hC dL_law_4 md_X8_init lk_m_L_9 lk_i_X8_init rfl (As := []) (rest := [.ref q]) (c_X8_init g w1 q t1) rfl rfl (Nat.le_of_ble_eq_true rfl) ⟨Nat.le_of_ble_eq_true rfl, Nat.le_of_ble_eq_true rfl, Nat.le_of_ble_eq_true rfl, Nat.le_of_ble_eq_true rfl⟩ (fun r w2 hq2 => ?_)
  obtain ⟨rfl, A, vi, cv, before, slots, steps, hA, hA0, hW, hnA, hEA⟩ := hq2
  subst hA0
  refine vv_astore_n (lv2 := [(1, .ref (A 0)), (0, .ref b)]) hC dL_law_7 rfl (by decide) rfl ?_
  refine vv_new (ci := 9) (fs := [.int 0, .int 0, .int 0, .int 0, .null, .null, .null, .null, .null, .int 0, .null, .null, .null, .int 0, .int 0, .int 0, .int 0, .int 0, .null, .null, .null, .null, .null, .int 0, .null, .null, .null, .null, .null, .null, .long 0]) hC fpcX9 rfl lk_o_L_10 lk_b_X9 lk_z_X9 dL_law_8 nfsX9l (Nat.le_of_ble_eq_true rfl) (Nat.le_of_ble_eq_true rfl) (fun q w3 hq3 t3 hs3 => ?_)
  refine vv_dup hC dL_law_11 rfl ?_
  refine vv_callI hC dL_law_12 md_X9_init lk_m_L_12 lk_i_X9_init rfl (As := []) (rest := [.ref q]) (c_X9_init g w3 q t3) rfl rfl (Nat.le_of_ble_eq_true rfl) ⟨Nat.le_of_ble_eq_true rfl, Nat.le_of_ble_eq_true rfl, Nat.le_of_ble_eq_true rfl, Nat.le_of_ble_eq_true rfl⟩ (fun r w4 hq4 => ?_)
  obtain ⟨rfl, B, hB, hB0, hM, hnB, hEB⟩ := hq4
  subst hB0
  refine vv_astore_n (lv2 := [(2, .ref (B 0)), (1, .ref (A 0)), (0, .ref b)]) hC dL_law_15 rfl (by decide) rfl ?_
  refine vv_iconst (v := nI 0) hC dL_law_16 rfl ?_
  refine vv_istore_n (lv2 := [(3, .int (nI 0)), (2, .ref (B 0)), (1, .ref (A 0)), (0, .ref b)]) hC dL_law_17 rfl (by decide) rfl ?_
  have hW3 := hW.keep hs3 (fun _ _ z => z) (fun z => z)
  have hnq : ∀ i, uA i → ¬ A i = B 0 := fun i hi z => by
    obtain ⟨e, he⟩ := hW.ex i hi
    rw [z, hq3] at he
    cases he
  have hvq : ¬ vi = B 0 := fun z => by
    have he := hW.2.2.2.1
    rw [z, hq3] at he
    cases he
  have hW4 := hW3.keep hEB hnq hvq
  have hJ : IJ A B := ⟨hA, hB, fun i j hi hj z => by
    by_cases j0 : j = 0
    · rw [j0] at z; exact hnq i hi z
    · obtain ⟨e, he⟩ := hW3.ex i hi
      rw [z, hnB j hj j0] at he
      cases he⟩
  have hS : LwS g A B w4 := ⟨_, _, _, _, _, _, _, _, _, _, _, _, _, _, _, _, _, _, _, _, _, _, _, _, _, 0, 0, 0, 0, 0, _, _, _, _, _, _, _, _, _, _, _, _, _, _, _, _, _, _, _, hW4, hM, RR_zero, hW4.novi, WM.novi hW4.2.2.2.1 hM⟩
  exact law_body hC hX hg hL hJ hE L 0 w4 _ _ hS (by omega) (by omega) (Nat.le_of_ble_eq_true rfl) (Nat.le_of_ble_eq_true rfl)
