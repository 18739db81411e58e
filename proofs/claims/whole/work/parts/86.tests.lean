section DP
variable {x : Nat → Nat} {th : Nat → Bool} {F G : Nat → Int64}
theorem cntR_single {c : Nat → Bool} {m : Nat} (h : ∀ i, c i = true → i = m) : ∀ r k, k ≤ m → m < k + r → cntR c r k = b1 (c m) := by
  have z : ∀ r k, m < k → cntR c r k = 0 := by
    intro r
    induction r with
    | zero => intro k _; rfl
    | succ r ih =>
      intro k hk
      simp only [cntR]
      have : c k = false := Bool.eq_false_iff.mpr fun y => by have := h k y; omega
      rw [this, ih (k + 1) (by omega)]; rfl
  intro r
  induction r with
  | zero => intro k h1 h2; omega
  | succ r ih =>
    intro k h1 h2
    simp only [cntR]
    by_cases e : k = m
    · subst e; rw [z r (k + 1) (by omega)]; omega
    · have : c k = false := Bool.eq_false_iff.mpr fun y => e (h k y)
      rw [this, ih (k + 1) (by omega) (by omega)]
      simp [b1]
theorem small64 {s : Int32} (h : ∀ i, 6 ≤ i → hb s i = false) : ∃ m, m < 64 ∧ s = nI m := by
  refine ⟨s.toBitVec.toNat, ?_, (nI_toNat s).symm⟩
  exact Nat.lt_of_lt_of_le (Nat.lt_pow_two_of_testBit s.toBitVec.toNat (n := 6) fun i hi => h i hi) (by decide)
theorem wst_lt {V : Nat → Nat} {K p : Nat} (h1 : V (K + 3 ^ p) ≤ 6) (h2 : V (K + 2 * 3 ^ p) ≤ 6) : wst V K p ≤ 7 := by
  unfold wst
  split <;> omega
theorem p3_le : ∀ p, p < 6 → 3 ^ p ≤ 243 := by decide
/-- one cube -/
theorem cube_loop {left needs : Nat → Int32} {V : Nat → Nat} {k K : Nat} (hK : K < 729) (hkK : k + K = 728) (hV : ∀ K, K < 729 → V K ≤ 6) (hl : ∀ c, c < k → left c = nI (nK x (728 - c))) (hn : ∀ c, c < k → needs c = nI (V (728 - c))) :
    ∀ (r p acc : Nat) (l2 l3 : Int32), p + r = 6 → acc ≤ 7 →
      (f_X5_fillCube_L17 left needs (nI k) r p l2 l3 (nI acc) (nI (k / 3 ^ p)) (nI (3 ^ p))).2.2.1 = nI (mnL (fun p => decide (dg K p = 0)) (wst V K) r p acc) ∧
      ((∃ q, p ≤ q ∧ q < p + r ∧ dg K q = 0) → (f_X5_fillCube_L17 left needs (nI k) r p l2 l3 (nI acc) (nI (k / 3 ^ p)) (nI (3 ^ p))).2.1 = nI (nK x K)) ∧
      ((¬ ∃ q, p ≤ q ∧ q < p + r ∧ dg K q = 0) → (f_X5_fillCube_L17 left needs (nI k) r p l2 l3 (nI acc) (nI (k / 3 ^ p)) (nI (3 ^ p))).2.1 = l3) ∧
      ∀ i, hb (f_X5_fillCube_L17 left needs (nI k) r p l2 l3 (nI acc) (nI (k / 3 ^ p)) (nI (3 ^ p))).1 i = true ↔ (hb l2 i = true ∨ (p ≤ i ∧ i < p + r ∧ dg K i = 1)) := by
  intro r
  induction r with
  | zero =>
    intro p acc l2 l3 _ _
    refine ⟨rfl, fun ⟨q, h1, h2, _⟩ => by omega, fun _ => rfl, fun i => ⟨Or.inl, fun h => h.elim id fun h => by omega⟩⟩
  | succ r ih =>
    intro p acc l2 l3 hp ha
    have hp6 : p < 6 := by omega
    have h3 := p3_le p hp6
    have h30 := p3_pos p
    have hdiv : k / 3 ^ p ≤ 728 := Nat.le_trans (Nat.div_le_self _ _) (by omega)
    have edg : (nI (k / 3 ^ p) - nI (k / 3 ^ p) / 3 * 3 : Int32) = nI (2 - dg K p) := by
      rw [show (nI (k / 3 ^ p) - nI (k / 3 ^ p) / 3 * 3 : Int32) = nI (k / 3 ^ p % 3) from nI_rem (d := 3) (by omega) (by omega) (by omega)]
      have := dg_co K hK p hp6
      rw [show 728 - K = k by omega] at this
      rw [this]; rfl
    have ed : (nI (k / 3 ^ p) / 3 : Int32) = nI (k / 3 ^ (p + 1)) := by
      rw [show (nI (k / 3 ^ p) / 3 : Int32) = nI (k / 3 ^ p / 3) from nI_div (d := 3) (by omega) (by omega) (by omega), Nat.div_div_eq_div_mul, Nat.pow_succ]
    have em : (nI (3 ^ p) * 3 : Int32) = nI (3 ^ (p + 1)) := by rw [Nat.pow_succ]; exact pk_mul _ 3
    have hdlt : dg K p < 3 := Nat.mod_lt _ (by omega)
    simp only [f_X5_fillCube_L17]
    unfold f_X5_fillCube_x1
    rw [edg, ed, em]
    simp only [mnL, decide_eq_true_eq]
    by_cases c0 : dg K p = 0
    · have u1 := (dg_upd K hK p hp6 c0 1 (by omega)).1
      have u2 := (dg_upd K hK p hp6 c0 2 (by omega)).1
      rw [Nat.one_mul] at u1
      have e2 : (nI (2 - dg K p) : Int32) = 2 := by rw [c0]; rfl
      have n1 : ¬ (nI (2 - dg K p) : Int32) = 1 := by rw [c0]; decide
      have i2 : (nI k - 2 * nI (3 ^ p) : Int32) = nI (728 - (K + 2 * 3 ^ p)) := by
        rw [show (2 * nI (3 ^ p) : Int32) = nI (2 * 3 ^ p) from pk_mul 2 _, show (nI k - nI (2 * 3 ^ p) : Int32) = nI (k - 2 * 3 ^ p) from pk_sub (by omega)]
        exact congrArg nI (by omega)
      have i1 : (nI k - nI (3 ^ p) : Int32) = nI (728 - (K + 3 ^ p)) := by
        rw [show (nI k - nI (3 ^ p) : Int32) = nI (k - 3 ^ p) from pk_sub (by omega)]
        exact congrArg nI (by omega)
      rw [if_neg n1, if_pos e2, if_pos e2, if_pos c0, i1, i2, s_at (by omega) (by omega), s_at (by omega) (by omega), s_at (by omega) (by omega), s_at (by omega) (by omega)]
      rw [hl _ (by omega), hl _ (by omega), hn _ (by omega), hn _ (by omega), show 728 - (728 - (K + 3 ^ p)) = K + 3 ^ p by omega, show 728 - (728 - (K + 2 * 3 ^ p)) = K + 2 * 3 ^ p by omega]
      have hv1 := hV (K + 3 ^ p) u1
      have hv2 := hV (K + 2 * 3 ^ p) u2
      have hw := wst_lt hv1 hv2
      have ew : (1 + (if nI (V (K + 2 * 3 ^ p)) < nI (V (K + 3 ^ p)) then nI (V (K + 3 ^ p)) else nI (V (K + 2 * 3 ^ p))) : Int32) = nI (wst V K p) := by
        unfold wst
        by_cases c : V (K + 3 ^ p) ≤ V (K + 2 * 3 ^ p)
        · rw [if_neg (fun z => by have := (nI_lt_ (by omega) (by omega)).mp z; omega), if_pos c]; exact nI_add 1 _
        · rw [if_pos ((nI_lt_ (by omega) (by omega)).mpr (by omega)), if_neg c]; exact nI_add 1 _
      rw [ew]
      have ea : (if nI (wst V K p) < nI acc then nI (wst V K p) else nI acc : Int32) = nI (if acc ≤ wst V K p then acc else wst V K p) := by
        by_cases c : acc ≤ wst V K p
        · rw [if_neg (fun z => by have := (nI_lt_ (by omega) (by omega)).mp z; omega), if_pos c]
        · rw [if_pos ((nI_lt_ (by omega) (by omega)).mpr (by omega)), if_neg c]
      rw [ea, nI_add, show nK x (K + 2 * 3 ^ p) + nK x (K + 3 ^ p) = nK x K from by rw [nK_split (x := x) hK hp6 c0]; exact Nat.add_comm _ _]
      obtain ⟨j1, j2, j3, j4⟩ := ih (p + 1) (if acc ≤ wst V K p then acc else wst V K p) l2 (nI (nK x K)) (by omega) (by split <;> omega)
      refine ⟨j1, fun _ => ?_, fun h => absurd ⟨p, by omega, by omega, c0⟩ h, fun i => ?_⟩
      · by_cases c : ∃ q, p + 1 ≤ q ∧ q < p + 1 + r ∧ dg K q = 0
        · exact j2 c
        · exact j3 c
      · rw [j4]
        refine or_congr_right ⟨fun h => ⟨by omega, by omega, h.2.2⟩, fun h => ⟨?_, by omega, h.2.2⟩⟩
        rcases Nat.lt_or_eq_of_le h.1 with z | z
        · exact z
        · rw [← z, c0] at h; omega
    · have n2 : ¬ (nI (2 - dg K p) : Int32) = 2 := fun z => by have := (nI_eq_ (a := 2 - dg K p) (b := 2) (by omega) (by omega)).mp z; omega
      rw [if_neg n2, if_neg n2, if_neg c0]
      by_cases c1 : dg K p = 1
      · have e1 : (nI (2 - dg K p) : Int32) = 1 := by rw [c1]; rfl
        rw [if_pos e1]
        obtain ⟨j1, j2, j3, j4⟩ := ih (p + 1) acc (l2 ||| f_X8_bit (nI p)) l3 (by omega) ha
        refine ⟨j1, fun ⟨q, h4, h5, h6⟩ => j2 ⟨q, ?_, by omega, h6⟩, fun h => j3 fun ⟨q, h4, h5, h6⟩ => h ⟨q, by omega, by omega, h6⟩, fun i => ?_⟩
        · rcases Nat.lt_or_eq_of_le h4 with z | z
          · exact z
          · rw [← z] at h6; exact absurd h6 c0
        · rw [j4, hb_set (by omega), Bool.or_eq_true, decide_eq_true_eq]
          constructor
          · rintro ((h | h) | h)
            · exact Or.inl h
            · rw [h]; exact Or.inr ⟨by omega, by omega, c1⟩
            · exact Or.inr ⟨by omega, by omega, h.2.2⟩
          · rintro (h | h)
            · exact Or.inl (Or.inl h)
            · rcases Nat.lt_or_eq_of_le h.1 with z | z
              · exact Or.inr ⟨z, by omega, h.2.2⟩
              · exact Or.inl (Or.inr z.symm)
      · have n1 : ¬ (nI (2 - dg K p) : Int32) = 1 := fun z => by have := (nI_eq_ (a := 2 - dg K p) (b := 1) (by omega) (by omega)).mp z; omega
        rw [if_neg n1]
        obtain ⟨j1, j2, j3, j4⟩ := ih (p + 1) acc l2 l3 (by omega) ha
        refine ⟨j1, fun ⟨q, h4, h5, h6⟩ => j2 ⟨q, ?_, by omega, h6⟩, fun h => j3 fun ⟨q, h4, h5, h6⟩ => h ⟨q, by omega, by omega, h6⟩, fun i => ?_⟩
        · rcases Nat.lt_or_eq_of_le h4 with z | z
          · exact z
          · rw [← z] at h6; exact absurd h6 c0
        · rw [j4]
          refine or_congr_right ⟨fun h => ⟨by omega, by omega, h.2.2⟩, fun h => ⟨?_, by omega, h.2.2⟩⟩
          rcases Nat.lt_or_eq_of_le h.1 with z | z
          · exact z
          · rw [← z] at h; exact absurd h.2.2 c1
theorem nK_64 (K : Nat) : nK x K ≤ 64 := cntR_le _ _ _
theorem cube_x2 {left needs : Nat → Int32} {V : Nat → Nat} {k K : Nat} (hF : ∀ i, i < 64 → x i ≤ 68719476736 ∧ F i = lN (x i)) (hK : K < 729) (hkK : k + K = 728) (hV : ∀ K, K < 729 → V K ≤ 6) (hl : ∀ c, c < k → left c = nI (nK x (728 - c))) (hn : ∀ c, c < k → needs c = nI (V (728 - c))) :
    f_X5_fillCube_x2 left needs F (nI k) = nI (nK x K) := by
  obtain ⟨-, j2, j3, j4⟩ := cube_loop (x := x) hK hkK hV hl hn 6 0 6 0 (-1) (by omega) (by omega)
  rw [Nat.pow_zero, Nat.div_one] at j2 j3 j4
  have j2 : (∃ q, 0 ≤ q ∧ q < 0 + 6 ∧ dg K q = 0) → (f_X5_fillCube_L17 left needs (nI k) 6 0 0 (-1) 6 (nI k) 1).2.1 = nI (nK x K) := j2
  have j3 : (¬ ∃ q, 0 ≤ q ∧ q < 0 + 6 ∧ dg K q = 0) → (f_X5_fillCube_L17 left needs (nI k) 6 0 0 (-1) 6 (nI k) 1).2.1 = -1 := j3
  have j4 : ∀ i, hb (f_X5_fillCube_L17 left needs (nI k) 6 0 0 (-1) 6 (nI k) 1).1 i = true ↔ (hb 0 i = true ∨ (0 ≤ i ∧ i < 0 + 6 ∧ dg K i = 1)) := j4
  unfold f_X5_fillCube_x2
  have h64 := nK_64 (x := x) K
  by_cases c : ∃ q, 0 ≤ q ∧ q < 0 + 6 ∧ dg K q = 0
  · have e := j2 c
    rw [e, if_pos (Int32.not_lt.mp (nI_neg (by omega)))]
  · have e := j3 c
    rw [e, if_neg (show ¬ (0 : Int32) ≤ -1 by decide)]
    have hs : ∀ i, 6 ≤ i → hb (f_X5_fillCube_L17 left needs (nI k) 6 0 0 (-1) 6 (nI k) 1).1 i = false := fun i hi => Bool.eq_false_iff.mpr fun z => by
      rcases (j4 i).mp z with z | z
      · rw [hb_zero] at z; cases z
      · omega
    obtain ⟨m, hm, em⟩ := small64 hs
    rw [em, if_neg (show ¬ (64 : Int32) ≤ nI m from fun z => by have := (nI_le_ (a := 64) (b := m) (by omega) (by omega)).mp z; omega), nI_cl (by omega), (hF m hm).2]
    have hbm : ∀ p, p < 6 → (hb (nI m) p = true ↔ dg K p = 1) := fun p hp => by
      rw [← em, j4, hb_zero]
      exact ⟨fun h => h.elim (fun z => (by cases z)) fun z => z.2.2, fun h => Or.inr ⟨by omega, by omega, h⟩⟩
    have hcm : ∀ i, i < 64 → (consB K i = true ↔ i = m) := fun i hi => by
      rw [cons_iff]
      have hb6 : ∀ i, i < 64 → ∀ j, j < 64 → (∀ p, p < 6 → hb (nI i) p = hb (nI j) p) → i = j := by decide +kernel
      constructor
      · intro h
        refine hb6 i hi m hm fun p hp => ?_
        have := (h p hp).resolve_left fun z => c ⟨p, by omega, by omega, z⟩
        exact Bool.eq_iff_iff.mpr (this.symm.trans (hbm p hp).symm)
      · intro h p hp
        subst h
        exact Or.inr (hbm p hp).symm
    have en : nK x K = b1 (psC x m) := by
      unfold nK
      have e1 : cntR (fun k => psC x k && consB K k) 64 0 = cntR (fun k => psC x k && decide (k = m)) 64 0 := cntR_congr 64 0 fun i _ hi => by
        have := hcm i (by omega)
        by_cases z : i = m
        · rw [this.mpr z, decide_eq_true z]
        · rw [Bool.eq_false_iff.mpr fun y => z (this.mp y), decide_eq_false z]
      rw [e1, cntR_single (m := m) (fun i hi => by rw [Bool.and_eq_true, decide_eq_true_eq] at hi; exact hi.2) 64 0 (by omega) (by omega), decide_eq_true rfl, Bool.and_true]
    rw [en]
    unfold psC b1
    by_cases z : 0 < x m
    · rw [if_pos ((pos_iff (hF m hm).1).mpr z)]; simp [z]; rfl
    · rw [if_neg (fun y => z ((pos_iff (hF m hm).1).mp y))]; simp [z]; rfl
theorem class_dp (hF : ∀ i, i < 64 → x i ≤ 68719476736 ∧ F i = lN (x i)) (hth : ∀ k, k < 64 → psC x k = true → ∀ p, p < 6 → hb (nI k) p = true → th p = true) : ∀ (r k : Nat) (left needs : Nat → Int32), k + r = 729 → (∀ c, c < k → left c = nI (nK x (728 - c))) → (∀ c, c < k → needs c = nI (Vt x th (728 - c))) → (f_X5_spoonsAtWorst_L2 F r k left needs).2 728 = nI (Vt x th 0) := by
  have hV : ∀ K, K < 729 → Vt x th K ≤ 6 := fun K hK => Nat.le_trans (Vt_le hth 729 K (by omega) hK) (uK_6 K)
  intro r
  induction r with
  | zero => intro k left needs hk _ hn; exact hn 728 (by omega)
  | succ r ih =>
    intro k left needs hk hl hn
    simp only [f_X5_spoonsAtWorst_L2]
    have hkK : k + (728 - k) = 728 := by omega
    have e2 := cube_x2 (x := x) hF (K := 728 - k) (by omega) hkK hV hl hn
    have e1 := (cube_loop (x := x) (K := 728 - k) (by omega) hkK hV hl hn 6 0 6 0 (-1) (by omega) (by omega)).1
    rw [Nat.pow_zero, Nat.div_one] at e1
    have e1 : (f_X5_fillCube_L17 left needs (nI k) 6 0 0 (-1) 6 (nI k) 1).2.2.1 = nI (mnL (fun p => decide (dg (728 - k) p = 0)) (wst (Vt x th) (728 - k)) 6 0 6) := e1
    unfold f_X5_fillCube
    dsimp only
    rw [e2, s_put (by omega) (by omega), s_put (by omega) (by omega)]
    refine ih (k + 1) _ _ (by omega) (fun c hc => ?_) (fun c hc => ?_)
    · rw [upd_at]
      by_cases e : c = k
      · subst e; rw [if_pos rfl]
      · rw [if_neg e]; exact hl c (by omega)
    · rw [upd_at]
      by_cases e : c = k
      · subst e
        rw [if_pos rfl]
        have h64 := nK_64 (x := x) (728 - c)
        by_cases c1 : nK x (728 - c) ≤ 1
        · rw [if_neg (show ¬ (1 : Int32) < nI (nK x (728 - c)) from fun z => by have := (nI_lt_ (a := 1) (b := nK x (728 - c)) (by omega) (by omega)).mp z; omega), Vt_eq (by omega), if_pos c1]; rfl
        · rw [if_pos (show (1 : Int32) < nI (nK x (728 - c)) from (nI_lt_ (a := 1) (b := nK x (728 - c)) (by omega) (by omega)).mpr (by omega))]
          rw [e1, Vt_any hth (by omega) c1]
      · rw [if_neg e]; exact hn c (by omega)
theorem L34_cs (k : Nat) : ∀ (r p l : Nat) (b : Bool), p + r ≤ 6 → (f_X9_areTwo_L34 k r p b l).1 = (b && csB k r p l) := by
  intro r
  induction r with
  | zero => intro p l b _; exact (Bool.and_true b).symm
  | succ r ih =>
    intro p l b hp
    simp only [f_X9_areTwo_L34, csB]
    rw [ih _ _ _ (by omega), has9_hb (by omega)]
    cases b with
    | false => simp
    | true =>
      by_cases c0 : l % 3 = 0
      · simp [c0]
      · by_cases c1 : l % 3 = 1
        · cases hb (nI k) p <;> simp [c1, bI]
        · cases hb (nI k) p <;> simp [c0, c1, bI]
theorem areTwo_eq (hF : ∀ i, i < 64 → x i ≤ 68719476736 ∧ F i = lN (x i)) (hFG : ∀ i, i < 64 → F i = G i) (K : Nat) : f_X9_areTwo G K = true ↔ ¬ nK x K ≤ 1 := by
  have e : ∀ (r k s : Nat), k + r ≤ 64 → f_X9_areTwo_L4 G K r k (nI s) = nI (s + cntR (fun k => psC x k && consB K k) r k) := by
    intro r
    induction r with
    | zero => intro k s _; rfl
    | succ r ih =>
      intro k s hk
      obtain ⟨h1, h2⟩ := hF k (by omega)
      simp only [f_X9_areTwo_L4, cntR]
      have e1 : (if 0 < G k then true else false) = psC x k := by
        rw [← hFG k (by omega), h2]
        unfold psC
        by_cases z : 0 < x k
        · rw [if_pos ((pos_iff h1).mpr z), decide_eq_true z]
        · rw [if_neg (fun y => z ((pos_iff h1).mp y)), decide_eq_false z]
      rw [e1, L34_cs k 6 0 K _ (by omega), bIif]
      have e2 : (nI s + bI (psC x k && csB k 6 0 K) : Int32) = nI (s + b1 (psC x k && consB K k)) := by
        show (nI s + bI (psC x k && consB K k) : Int32) = _
        cases psC x k && consB K k
        · exact Int32.add_zero _
        · exact nI_add1 s
      rw [e2, ih _ _ (by omega), Nat.add_assoc]
  have h := e 64 0 0 (by omega)
  rw [Nat.zero_add] at h
  have h64 := nK_64 (x := x) K
  have h2 : f_X9_areTwo_L4 G K 64 0 0 = nI (nK x K) := h
  unfold f_X9_areTwo
  rw [h2]
  have h3 : nI (nK x K) ≤ 1 ↔ nK x K ≤ 1 := nI_le_ (a := nK x K) (b := 1) (by omega) (by omega)
  by_cases c : nK x K ≤ 1
  · rw [if_pos (h3.mpr c)]; exact ⟨fun z => (by cases z), fun z => absurd c z⟩
  · rw [if_neg (fun z => c (h3.mp z))]; exact ⟨fun _ => c, fun _ => rfl⟩
theorem ref_dp {H P sc : Nat} {a : Nat → Int32} {tales : Nat → Int64} {sight went path home : Nat → Int32} (hP : P ≤ 6) (hF : ∀ i, i < 64 → x i ≤ 68719476736 ∧ F i = lN (x i)) (hFG : ∀ i, i < 64 → F i = (f_X9_layTales H P sc a tales sight went path home).1 i) (hthe : ∀ p, p < 6 → th p = (decide (p < P) && f_X9_isThere a p)) (hth : ∀ k, k < 64 → psC x k = true → ∀ p, p < 6 → hb (nI k) p = true → th p = true) :
    ∀ (r : Nat) (y : Nat → Int32), r ≤ 729 → (∀ K, r ≤ K → K < 729 → y K = nI (Vt x th K)) → (f_X9_tests_L25 H P sc a tales sight went path home r y) 0 = nI (Vt x th 0) := by
  have hV : ∀ K, K < 729 → Vt x th K ≤ 6 := fun K hK => Nat.le_trans (Vt_le hth 729 K (by omega) hK) (uK_6 K)
  intro r
  induction r with
  | zero => intro y _ hy; exact hy 0 (by omega) (by omega)
  | succ K ih =>
    intro y hr hy
    simp only [f_X9_tests_L25]
    have hK : K < 729 := by omega
    refine ih _ (by omega) fun J h1 h2 => ?_
    have h52 : ∀ (r p acc : Nat), p + r = 6 → acc ≤ 99 → (f_X9_tests_L52 P a K y r p (nI acc) (3 ^ p)).1 = nI (mnL (fun p => decide (dg K p = 0) && th p) (wst (Vt x th) K) r p acc) := by
      intro r
      induction r with
      | zero => intro p acc _ _; rfl
      | succ r ih2 =>
        intro p acc hp ha
        simp only [f_X9_tests_L52, mnL]
        have hp6 : p < 6 := by omega
        have step : (if K / 3 ^ p % 3 = 0 then (if P ≤ p then nI acc else (if f_X9_isThere a p = true then f_X9_tests_x1 K y (nI acc) (3 ^ p) else nI acc)) else nI acc) = nI (if (decide (dg K p = 0) && th p) = true then (if acc ≤ wst (Vt x th) K p then acc else wst (Vt x th) K p) else acc) := by
          rw [hthe p hp6]
          by_cases c0 : dg K p = 0
          · rw [if_pos (show K / 3 ^ p % 3 = 0 from c0)]
            by_cases cP : P ≤ p
            · rw [if_pos cP]; simp [show ¬ p < P by omega]
            · rw [if_neg cP]
              by_cases ct : f_X9_isThere a p = true
              · rw [if_pos ct]
                simp only [c0, ct, show p < P by omega, decide_true, Bool.and_self, if_true]
                unfold f_X9_tests_x1
                have u1 := (dg_upd K hK p hp6 c0 1 (by omega)).1
                have u2 := (dg_upd K hK p hp6 c0 2 (by omega)).1
                rw [Nat.one_mul] at u1
                have h30 := p3_pos p
                have g1 : (upd y K 0) (K + 3 ^ p) = nI (Vt x th (K + 3 ^ p)) := by rw [upd_at, if_neg (by omega)]; exact hy _ (by omega) u1
                have g2 : (upd y K 0) (K + 2 * 3 ^ p) = nI (Vt x th (K + 2 * 3 ^ p)) := by rw [upd_at, if_neg (by omega)]; exact hy _ (by omega) u2
                rw [g1, g2]
                have hv1 := hV (K + 3 ^ p) u1
                have hv2 := hV (K + 2 * 3 ^ p) u2
                have hw := wst_lt hv1 hv2
                have ew : (1 + (if nI (Vt x th (K + 3 ^ p)) ≤ nI (Vt x th (K + 2 * 3 ^ p)) then nI (Vt x th (K + 2 * 3 ^ p)) else nI (Vt x th (K + 3 ^ p))) : Int32) = nI (wst (Vt x th) K p) := by
                  unfold wst
                  by_cases c : Vt x th (K + 3 ^ p) ≤ Vt x th (K + 2 * 3 ^ p)
                  · rw [if_pos ((nI_le_ (by omega) (by omega)).mpr c), if_pos c]; exact nI_add 1 _
                  · rw [if_neg (fun z => c ((nI_le_ (by omega) (by omega)).mp z)), if_neg c]; exact nI_add 1 _
                rw [ew]
                by_cases c : acc ≤ wst (Vt x th) K p
                · rw [if_pos ((nI_le_ (by omega) (by omega)).mpr c), if_pos c]
                · rw [if_neg (fun z => c ((nI_le_ (by omega) (by omega)).mp z)), if_neg c]
              · rw [if_neg ct]; simp [Bool.eq_false_iff.mpr ct]
          · rw [if_neg (show ¬ K / 3 ^ p % 3 = 0 from c0)]; simp [c0]
        rw [step, ← Nat.pow_succ, ih2 (p + 1) _ (by omega) ?_]
        by_cases c : (decide (dg K p = 0) && th p) = true
        · rw [if_pos c]; split <;> omega
        · rw [if_neg c]; exact ha
    have h52 := h52 6 0 99 (by omega) (by omega)
    rw [Nat.pow_zero] at h52
    by_cases e : J = K
    · subst e
      by_cases c : nK x J ≤ 1
      · rw [if_neg (fun z => (areTwo_eq hF hFG J).mp z c), upd_at, if_pos rfl, Vt_eq hK, if_pos c]; rfl
      · rw [if_pos ((areTwo_eq hF hFG J).mpr c), upd_at, if_pos rfl, Vt_eq hK, if_neg c]; exact h52
    · by_cases c : f_X9_areTwo (f_X9_layTales H P sc a tales sight went path home).1 K = true
      · rw [if_pos c, upd_at, upd_at, if_neg e, if_neg e]; exact hy J (by omega) h2
      · rw [if_neg c, upd_at, if_neg e]; exact hy J (by omega) h2
end DP
section CALLS5
variable {kS : Int32} {tl : Nat} {bytes : Nat → Int32} {v : TVi} {now : TN} {st ct : Nat} {bs ss : Nat → TN} {sc : Nat} {kinds moons places values : Nat → Int32} {path home kin a was kept isKept text sight : Nat → Int32}
theorem q_tests (R : RR kS tl bytes v now st ct bs ss sc kinds moons places values path home kin a was kept isKept text sight) (aw : Int32) (u s : Int64) (fits tales : Nat → Int64) (went tests left needs : Nat → Int32) : (f_X8_tests aw u s v now sc fits kinds moons places values left needs).1 = (f_X9_tests (gVi_houses v) (gVi_people v) sc a tales sight went path home tests).1 := by
  obtain ⟨x, hF, hFG, hs⟩ := tctx R aw u s fits tales went
  obtain ⟨W, ⟨N, I⟩, A, K, S, T⟩ := R
  have hP := W.hP
  unfold f_X8_tests f_X9_tests
  dsimp only
  unfold f_X8_tests_x1
  rw [setsAll_eq hFG]
  by_cases c : f_X5_setCount (f_X8_tellTales aw u s v now sc fits kinds moons places values).2.2.2.2 = 0
  · rw [if_pos c, if_pos c]
  · rw [if_neg c, if_neg c]
    have hth : ∀ k, k < 64 → psC x k = true → ∀ p, p < 6 → hb (nI k) p = true → (decide (p < gVi_people v) && f_X9_isThere a p) = true := fun k hk h0 p hp hh => by
      obtain ⟨h1, h2⟩ := (there_hb now v hP p).mp (hs k hk (of_decide_eq_true h0) p (by omega) hh)
      rw [N.isThere hp, h2, decide_eq_true h1]; rfl
    unfold f_X5_spoonsAtWorst
    dsimp only
    rw [show (728 : Int32) = nI 728 from rfl, s_at (by omega) (by omega)]
    rw [class_dp (x := x) (th := fun p => decide (p < gVi_people v) && f_X9_isThere a p) hF hth 729 0 left needs (by omega) (fun c hc => by omega) (fun c hc => by omega)]
    exact (ref_dp (x := x) (th := fun p => decide (p < gVi_people v) && f_X9_isThere a p) hP hF hFG (fun p _ => rfl) hth 729 tests (by omega) (fun K h1 h2 => by omega)).symm
end CALLS5
