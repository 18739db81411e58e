/-! what holds in every night; a walk, a dawn, a hanging, a bolt -/
def wb (n : TN) (p : Nat) : Bool := hb (gN_wolves n) p || hb (gN_bitten n) p
def NI (H P : Nat) (n : TN) : Prop :=
  (∀ p, P ≤ p → hb (gN_wolves n) p = false ∧ hb (gN_bitten n) p = false ∧ hb (gN_gone n) p = false ∧ hb (gN_out n) p = false) ∧
  (∀ p, hb (gN_bitten n) p = true → hb (gN_wolves n) p = false) ∧
  (∀ h, H ≤ h → h < 4 → cn (gN_sheep n) h = 0) ∧
  (∀ h, h < 4 → cn (gN_tracks n) h ≤ fa_cnt (fun p => hb (gN_out n) p) 6) ∧
  (∃ d : Nat → Nat, ∀ q, q < P → ((cn (gN_biters n) q = 0 ∧ d q = 0) ∨ ∃ b, b < P ∧ cn (gN_biters n) q = b + 1 ∧ hb (gN_wolves n) b = true ∧ d q = d b + 1 ∧ wb n q = true) ∧ (wb n q = true → d q + 1 ≤ fa_cnt (wb n) 6))
theorem cnt_set {p q : Nat → Bool} {j : Nat} (h0 : p j = false) (h1 : q j = true) (h2 : ∀ i, i ≠ j → q i = p i) : ∀ n, fa_cnt q n = fa_cnt p n + (if j < n then 1 else 0) := by
  intro n
  induction n with
  | zero => rfl
  | succ n ih =>
    by_cases e : n = j
    · subst e
      rw [fa_cnt_yes h1, fa_cnt_no h0, ih, if_neg (by omega), if_pos (by omega)]
    · have e2 := h2 n e
      cases c : p n with
      | true => rw [fa_cnt_yes (e2.trans c), fa_cnt_yes c, ih]; split <;> split <;> omega
      | false => rw [fa_cnt_no (e2.trans c), fa_cnt_no c, ih]; split <;> split <;> omega
theorem nI_add1 (n : Nat) : nI n + 1 = nI (n + 1) := nI_add n 1
theorem upd_at (f : Nat → Int32) (k : Nat) (x : Int32) (i : Nat) : upd f k x i = if i = k then x else f i := rfl
theorem goals_hb {n v} (hH : gVi_houses v ≤ 4) {p h : Nat} (hp : p < 6) (hg : hb (f_X2_goals n v (nI p)) h = true) : hb (gN_wolves n) p = true ∧ hb (gN_gone n) p = false ∧ hb (gN_out n) p = false ∧ hb (f_X8_cell (gVi_paths v) (nI (cn (gVi_homes v) p))) h = true ∧ h < gVi_houses v := by
  unfold f_X2_goals at hg
  rw [has_hb (by omega), hb_and, hb_and, hb_not, hb_not] at hg
  rw [show decide (p < 32) = true from decide_eq_true (by omega)] at hg
  cases h1 : hb (gN_wolves n) p <;> cases h2 : hb (gN_gone n) p <;> cases h3 : hb (gN_out n) p <;> rw [h1, h2, h3] at hg <;> simp only [Bool.not_true, Bool.not_false, Bool.and_true, Bool.and_false, Bool.true_and, if_true, Bool.false_eq_true, if_false, hb_zero] at hg
  unfold f_X2_reach at hg
  split at hg
  · rw [hb_zero] at hg; cases hg
  · rw [hb_and, Bool.and_eq_true, open_hb n v hH, cell_cn (gVi_homes v) p] at hg
    exact ⟨rfl, rfl, rfl, hg.1, hg.2.1⟩
theorem victim_ex (n : TN) (v : TVi) (hP : gVi_people v ≤ 6) (p h : Nat) : f_X2_victim n v (nI p) (nI h) = -9 ∨ ∃ j, j < gVi_people v ∧ f_X2_victim n v (nI p) (nI h) = nI j ∧ hb (gN_wolves n) j = false ∧ hb (gN_bitten n) j = false := by
  rw [victim_first]
  split
  · rcases firstP_range (c := victimC n v p h) 8 0 with e | ⟨j, _, _, h3, e⟩
    · exact Or.inl e
    · have := (victimC_iff hP).mp h3
      exact Or.inr ⟨j, this.1, e, this.2.2.2.1, this.2.2.2.2.1⟩
  · exact Or.inl rfl
theorem x1_at (now home path : Nat → Int32) {p h : Nat} (hh : h < 4) (i : Nat) : f_X9_visits_x1 now home path p h i = if i = 1 + h then (if now (1 + h) ≤ 0 then now (1 + h) else now (1 + h) - 1) else if i = 9 + h then now (9 + h) + bI (if path (4 * (tn (home p)) + h) = 1 then true else false) else if i = 13 + 5 * p + 3 then 1 else now i := by
  unfold f_X9_visits_x1
  have e1 : ∀ y : Int32, (upd (upd now (13 + 5 * p + 3) 1) (9 + h) y) (1 + h) = now (1 + h) := fun y => by
    rw [upd_at, upd_at, if_neg (by omega), if_neg (by omega)]
  have e2 : (upd now (13 + 5 * p + 3) 1) (9 + h) = now (9 + h) := by rw [upd_at, if_neg (by omega)]
  rw [e1, e2]
  by_cases c : now (1 + h) ≤ 0
  · rw [if_pos c, if_pos c, upd_at, upd_at]
    by_cases c1 : i = 1 + h
    · subst c1; rw [if_neg (by omega), if_neg (by omega), if_pos rfl]
    · rw [if_neg c1]
  · rw [if_neg c, if_neg c, upd_at, upd_at, upd_at]
theorem nI9 {j : Nat} (hj : j < 2147483648) : ¬ nI j = -9 := fun e => nI_neg hj (by rw [e]; decide)
theorem biterOf_cn {n : TN} {q : Nat} : f_X2_biterOf n (nI q) = if cn (gN_biters n) q = 0 then -9 else nI (cn (gN_biters n) q - 1) := by
  unfold f_X2_biterOf
  by_cases c : cn (gN_biters n) q = 0
  · rw [if_pos (cn0.mpr c), if_pos c]
  · rw [if_neg (fun z => c (cn0.mp z)), if_neg c, cell_cn]
    exact pk_sub (b := 1) (by omega)
theorem hb_set {x : Int32} {j : Nat} (hj : j < 32) (i : Nat) : hb (x ||| f_X8_bit (nI j)) i = (hb x i || decide (i = j)) := by rw [hb_or, hb_bit hj]
theorem sheep_wk (s : Int64) {h j : Nat} (hh : h < 4) (hj : j < 4) : f_X8_cell (if f_X8_cell s (nI h) ≤ 0 then s else f_X8_withCell s (nI h) (f_X8_cell s (nI h) - 1)) (nI j) = if j = h then (if f_X8_cell s (nI h) ≤ 0 then f_X8_cell s (nI h) else f_X8_cell s (nI h) - 1) else f_X8_cell s (nI j) := by
  have h5 := cn_lt s h
  by_cases c : f_X8_cell s (nI h) ≤ 0
  · rw [if_pos c, if_pos c]
    by_cases e : j = h
    · subst e; rw [if_pos rfl]
    · rw [if_neg e]
  · rw [if_neg c, if_neg c, cell_wc (by omega) (by omega)]
    by_cases e : j = h
    · subst e
      have hz : ¬ cn s j = 0 := fun z => c (cnle.mpr z)
      rw [if_pos rfl, if_pos rfl, cell_cn, show (nI (cn s j) - 1 : Int32) = nI (cn s j - 1) from pk_sub (b := 1) (by omega), and255_id (by omega)]
    · rw [if_neg e, if_neg (fun z => e z.symm)]
theorem sheep_le (s : Int64) {h j : Nat} (hh : h < 4) (hj : j < 4) : cn (if f_X8_cell s (nI h) ≤ 0 then s else f_X8_withCell s (nI h) (f_X8_cell s (nI h) - 1)) j ≤ cn s j := by
  have h5 := cn_lt s h
  by_cases c : f_X8_cell s (nI h) ≤ 0
  · rw [if_pos c]; exact Nat.le_refl _
  · have hz : ¬ cn s h = 0 := fun z => c (cnle.mpr z)
    rw [if_neg c, cell_cn, show (nI (cn s h) - 1 : Int32) = nI (cn s h - 1) from pk_sub (b := 1) (by omega), cn_wc (by omega) (by omega) (by omega)]
    by_cases e : h = j
    · subst e; rw [if_pos rfl]; omega
    · rw [if_neg e]; exact Nat.le_refl _
theorem track_wk (s : Int64) {h j : Nat} (hh : h < 4) (hj : j < 4) (hs : cn s h < 255) : cn (f_X8_withCell s (nI h) (f_X8_cell s (nI h) + 1)) j = if j = h then cn s h + 1 else cn s j := by
  rw [cell_cn, nI_add1, cn_wc (by omega) (by omega) (by omega)]
  by_cases e : h = j
  · subst e; rw [if_pos rfl]
  · rw [if_neg e, if_neg (fun z => e z.symm)]
theorem wk_bitten (n : TN) (v : TVi) (p h : Int32) : gN_bitten (f_X2_walk n v p h).2 = (if f_X2_victim n v p h = -9 then gN_bitten n else gN_bitten n ||| f_X8_bit (f_X2_victim n v p h)) := rfl
theorem wk_biters (n : TN) (v : TVi) (p h : Int32) : gN_biters (f_X2_walk n v p h).2 = (if f_X2_victim n v p h = -9 then gN_biters n else f_X8_withCell (gN_biters n) (f_X2_victim n v p h) (p + 1)) := rfl
theorem wk_tracks (n : TN) (v : TVi) (p h : Int32) : gN_tracks (f_X2_walk n v p h).2 = (if f_X8_has (f_X8_cell (gVi_wells v) (f_X8_cell (gVi_homes v) p)) h = true then gN_tracks n else f_X8_withCell (gN_tracks n) h (f_X8_cell (gN_tracks n) h + 1)) := rfl
theorem wk_sheep (n : TN) (v : TVi) (p h : Int32) : gN_sheep (f_X2_walk n v p h).2 = (if f_X8_cell (gN_sheep n) h ≤ 0 then gN_sheep n else f_X8_withCell (gN_sheep n) h (f_X8_cell (gN_sheep n) h - 1)) := rfl
theorem wk_out (n : TN) (v : TVi) (p h : Int32) : gN_out (f_X2_walk n v p h).2 = gN_out n ||| f_X8_bit p := rfl
theorem wk_wolves (n : TN) (v : TVi) (p h : Int32) : gN_wolves (f_X2_walk n v p h).2 = gN_wolves n := rfl
theorem wk_gone (n : TN) (v : TVi) (p h : Int32) : gN_gone (f_X2_walk n v p h).2 = gN_gone n := rfl
theorem wk_number (n : TN) (v : TVi) (p h : Int32) : gN_number (f_X2_walk n v p h).2 = gN_number n := rfl
theorem wk_bolted (n : TN) (v : TVi) (p h : Int32) : gN_bolted (f_X2_walk n v p h).2 = gN_bolted n := rfl
theorem wk_barred (n : TN) (v : TVi) (p h : Int32) : gN_barred (f_X2_walk n v p h).2 = gN_barred n := rfl
theorem wk_boltOf (n : TN) (v : TVi) (p h x : Int32) : f_X2_boltOf (f_X2_walk n v p h).2 x = f_X2_boltOf n x := by unfold f_X2_boltOf; rw [wk_barred, wk_bolted]
section WK
variable {n : TN} {a : Nat → Int32} {v : TVi} {path home kin : Nat → Int32} {p h : Nat}
theorem walk_res (R : NR (gVi_people v) n a) (W : VR v path home kin) (hp : p < 6) (hh : h < 4) : (f_X9_visits (gVi_people v) a home kin path p h).1 = (f_X2_walk n v (nI p) (nI h)).1 := victim_eq R W hp hh
/-- the numbers but the bite -/
theorem walk_x1 (R : NR (gVi_people v) n a) (I : NI (gVi_houses v) (gVi_people v) n) (W : VR v path home kin) (hp : p < gVi_people v) (hg : hb (f_X2_goals n v (nI p)) h = true) :
    (f_X9_visits_x1 a home path p h) 0 = gN_number n ∧ (∀ j, j < 4 → (f_X9_visits_x1 a home path p h) (1 + j) = f_X8_cell (gN_sheep (f_X2_walk n v (nI p) (nI h)).2) (nI j)) ∧ (∀ j, j < 4 → (f_X9_visits_x1 a home path p h) (5 + j) = f_X2_boltOf n (nI j)) ∧ (∀ j, j < 4 → (f_X9_visits_x1 a home path p h) (9 + j) = f_X8_cell (gN_tracks (f_X2_walk n v (nI p) (nI h)).2) (nI j)) ∧
    (∀ q, q < 6 → (f_X9_visits_x1 a home path p h) (13 + 5 * q + 0) = bI (hb (gN_wolves n) q)) ∧ (∀ q, q < 6 → (f_X9_visits_x1 a home path p h) (13 + 5 * q + 1) = bI (hb (gN_bitten n) q)) ∧ (∀ q, q < 6 → (f_X9_visits_x1 a home path p h) (13 + 5 * q + 2) = bI (hb (gN_gone n) q)) ∧ (∀ q, q < 6 → (f_X9_visits_x1 a home path p h) (13 + 5 * q + 3) = bI (hb (gN_out n ||| f_X8_bit (nI p)) q)) ∧ (∀ q, q < 6 → (f_X9_visits_x1 a home path p h) (13 + 5 * q + 4) = if q < gVi_people v then f_X2_biterOf n (nI q) else 0) := by
  have hP := W.hP
  have hH := W.hH
  obtain ⟨hw, hgo, hou, hpt, hh⟩ := goals_hb hH (by omega) hg
  have h4 : h < 4 := by omega
  have hc4 := W.hcn (p := p) (by omega)
  obtain ⟨r0, r1, r2, r3, r4, r5, r6, r7, r8⟩ := R
  refine ⟨?_, ?_, ?_, ?_, ?_, ?_, ?_, ?_, ?_⟩
  · rw [x1_at _ _ _ h4, if_neg (by omega), if_neg (by omega), if_neg (by omega)]; exact r0
  · intro j hj
    rw [x1_at _ _ _ h4]
    rw [wk_sheep, sheep_wk _ h4 hj, r1 h h4]
    by_cases e : j = h
    · rw [if_pos (by omega), if_pos e]
    · rw [if_neg (by omega), if_neg e, if_neg (by omega), if_neg (by omega), r1 j hj]
  · intro j hj
    rw [x1_at _ _ _ h4, if_neg (by omega), if_neg (by omega), if_neg (by omega)]; exact r2 j hj
  · intro j hj
    rw [x1_at _ _ _ h4, if_neg (by omega)]
    rw [wk_tracks]
    have ht : cn (gN_tracks n) h < 255 := by
      have := I.2.2.2.1 h h4
      have := fa_cnt_le (fun p => hb (gN_out n) p) 6
      omega
    rw [W.tnh (by omega), W.hpath hc4 h4, cell_cn (gVi_homes v) p, has_hb (by omega), if_pos hpt]
    by_cases cw : hb (f_X8_cell (gVi_wells v) (nI (cn (gVi_homes v) p))) h = true
    · rw [if_pos cw, if_pos cw]
      rw [show bI (if (2 : Int32) = 1 then true else false) = 0 from rfl, Int32.add_zero]
      by_cases e : j = h
      · subst e; rw [if_pos rfl]; exact r3 j hj
      · rw [if_neg (by omega), if_neg (by omega)]; exact r3 j hj
    · rw [if_neg cw, if_neg cw]
      rw [show bI (if (1 : Int32) = 1 then true else false) = 1 from rfl]
      rw [cell_cn _ j, track_wk _ h4 hj ht]
      by_cases e : j = h
      · subst e; rw [if_pos rfl, if_pos rfl, r3 j hj, cell_cn]; exact nI_add _ _
      · rw [if_neg (by omega), if_neg e, if_neg (by omega), r3 j hj, cell_cn]
  · intro q hq; rw [x1_at _ _ _ h4, if_neg (by omega), if_neg (by omega), if_neg (by omega)]; exact r4 q hq
  · intro q hq; rw [x1_at _ _ _ h4, if_neg (by omega), if_neg (by omega), if_neg (by omega)]; exact r5 q hq
  · intro q hq; rw [x1_at _ _ _ h4, if_neg (by omega), if_neg (by omega), if_neg (by omega)]; exact r6 q hq
  · intro q hq
    rw [x1_at _ _ _ h4, if_neg (by omega), if_neg (by omega), hb_set (by omega)]
    by_cases e : q = p
    · subst e; rw [if_pos rfl]; simp [bI]
    · rw [if_neg (by omega), r7 q hq]; simp [e]
  · intro q hq; rw [x1_at _ _ _ h4, if_neg (by omega), if_neg (by omega), if_neg (by omega)]; exact r8 q hq
theorem walk_NR (R : NR (gVi_people v) n a) (I : NI (gVi_houses v) (gVi_people v) n) (W : VR v path home kin) (hp : p < gVi_people v) (hg : hb (f_X2_goals n v (nI p)) h = true) :
    NR (gVi_people v) (f_X2_walk n v (nI p) (nI h)).2 (f_X9_visits (gVi_people v) a home kin path p h).2 := by
  have hP := W.hP
  have hh := (goals_hb W.hH (by omega) hg).2.2.2.2
  have h4 : h < 4 := by have := W.hH; omega
  obtain ⟨s0, s1, s2, s3, s4, s5, s6, s7, s8⟩ := walk_x1 R I W hp hg
  have hv := victim_eq R W (p := p) (by omega) h4
  show NR _ _ (f_X9_visits_x2 (gVi_people v) a home kin path p h)
  unfold f_X9_visits_x2
  rw [hv]
  rcases victim_ex n v hP p h with e | ⟨j, hj, e, hwj, hbj⟩
  · rw [if_pos e]
    have eb : gN_bitten (f_X2_walk n v (nI p) (nI h)).2 = gN_bitten n := by first | rw [wk_bitten, if_pos e] | rw [wk_biters, if_pos e]
    have ei : gN_biters (f_X2_walk n v (nI p) (nI h)).2 = gN_biters n := by first | rw [wk_bitten, if_pos e] | rw [wk_biters, if_pos e]
    refine ⟨s0, s1, fun i hi => by rw [wk_boltOf]; exact s2 i hi, s3, s4, fun q hq => by rw [eb]; exact s5 q hq, s6, s7, fun q hq => ?_⟩
    rw [s8 q hq, biterOf_cn, biterOf_cn, ei]
  · have hj6 : j < 6 := by omega
    rw [e, if_neg (nI9 (by omega)), tn_nI (by omega)]
    have eb : gN_bitten (f_X2_walk n v (nI p) (nI h)).2 = gN_bitten n ||| f_X8_bit (nI j) := by first | rw [wk_bitten, e, if_neg (nI9 (by omega))] | rw [wk_biters, e, if_neg (nI9 (by omega))]
    have ei : gN_biters (f_X2_walk n v (nI p) (nI h)).2 = f_X8_withCell (gN_biters n) (nI j) (nI p + 1) := by first | rw [wk_bitten, e, if_neg (nI9 (by omega))] | rw [wk_biters, e, if_neg (nI9 (by omega))]
    refine ⟨?_, fun i hi => ?_, fun i hi => ?_, fun i hi => ?_, fun q hq => ?_, fun q hq => ?_, fun q hq => ?_, fun q hq => ?_, fun q hq => ?_⟩
    · rw [upd_at, upd_at, if_neg (by omega), if_neg (by omega)]; exact s0
    · rw [upd_at, upd_at, if_neg (by omega), if_neg (by omega)]; exact s1 i hi
    · rw [upd_at, upd_at, if_neg (by omega), if_neg (by omega), wk_boltOf]; exact s2 i hi
    · rw [upd_at, upd_at, if_neg (by omega), if_neg (by omega)]; exact s3 i hi
    · rw [upd_at, upd_at, if_neg (by omega), if_neg (by omega)]; exact s4 q hq
    · rw [upd_at, upd_at, if_neg (by omega), eb, hb_set (by omega)]
      by_cases c : q = j
      · subst c; rw [if_pos rfl]; simp [bI]
      · rw [if_neg (by omega), s5 q hq]; simp [c]
    · rw [upd_at, upd_at, if_neg (by omega), if_neg (by omega)]; exact s6 q hq
    · rw [upd_at, upd_at, if_neg (by omega), if_neg (by omega)]; exact s7 q hq
    · rw [upd_at, upd_at, biterOf_cn, ei, nI_add1, cn_wc (by omega) (by omega) (by omega)]
      by_cases c : q = j
      · subst c
        rw [if_pos rfl, if_pos hj, if_pos rfl, if_neg (by omega)]; rfl
      · simp only [if_neg (show ¬ j = q from fun z => c z.symm)]
        rw [if_neg (by omega), if_neg (by omega), s8 q hq, biterOf_cn]
theorem walk_NI (I : NI (gVi_houses v) (gVi_people v) n) (W : VR v path home kin) (hp : p < gVi_people v) (hg : hb (f_X2_goals n v (nI p)) h = true) : NI (gVi_houses v) (gVi_people v) (f_X2_walk n v (nI p) (nI h)).2 := by
  have hP := W.hP
  have hH := W.hH
  obtain ⟨hw, hgo, hou, hpt, hh⟩ := goals_hb hH (by omega) hg
  have h4 : h < 4 := by omega
  obtain ⟨i1, i2, i3, i4, d, i5⟩ := I
  have hcO : fa_cnt (fun q => hb (gN_out n ||| f_X8_bit (nI p)) q) 6 = fa_cnt (fun q => hb (gN_out n) q) 6 + 1 := by
    rw [cnt_set (p := fun q => hb (gN_out n) q) (q := fun q => hb (gN_out n ||| f_X8_bit (nI p)) q) (j := p) hou (by rw [hb_set (by omega)]; simp) (fun i hi => by rw [hb_set (by omega)]; simp [hi]) 6, if_pos (by omega)]
  have hts : ∀ j, j < 4 → cn (gN_tracks (f_X2_walk n v (nI p) (nI h)).2) j ≤ fa_cnt (fun q => hb (gN_out n ||| f_X8_bit (nI p)) q) 6 := by
    intro j hj
    rw [hcO]
    have := i4 j hj
    rw [wk_tracks]
    split
    · omega
    · have ht := i4 h h4
      have := fa_cnt_le (fun p => hb (gN_out n) p) 6
      rw [track_wk _ h4 hj (by omega)]
      by_cases e : j = h
      · subst e; rw [if_pos rfl]; omega
      · rw [if_neg e]; omega
  have hsh : ∀ j, gVi_houses v ≤ j → j < 4 → cn (gN_sheep (f_X2_walk n v (nI p) (nI h)).2) j = 0 := by
    intro j h1 h2
    have e1 := i3 j h1 h2
    have e2 := sheep_le (gN_sheep n) (h := h) (j := j) h4 h2
    rw [wk_sheep]
    exact Nat.le_zero.mp (e1 ▸ e2)
  have hmo : ∀ q, gVi_people v ≤ q → hb (gN_out n ||| f_X8_bit (nI p)) q = false := fun q hq => by
    rw [hb_set (by omega), (i1 q hq).2.2.2]; simp; omega
  rcases victim_ex n v hP p h with e | ⟨j, hj, e, hwj, hbj⟩
  · have eb : gN_bitten (f_X2_walk n v (nI p) (nI h)).2 = gN_bitten n := by first | rw [wk_bitten, if_pos e] | rw [wk_biters, if_pos e]
    have ei : gN_biters (f_X2_walk n v (nI p) (nI h)).2 = gN_biters n := by first | rw [wk_bitten, if_pos e] | rw [wk_biters, if_pos e]
    have ew : wb (f_X2_walk n v (nI p) (nI h)).2 = wb n := by
      funext q
      unfold wb
      rw [wk_wolves, eb]
    refine ⟨fun q hq => ⟨(i1 q hq).1, ?_, (i1 q hq).2.2.1, hmo q hq⟩, ?_, hsh, hts, d, ?_⟩
    · rw [eb]; exact (i1 q hq).2.1
    · rw [eb]; exact i2
    · rw [ei, ew]; exact i5
  · have hj6 : j < 6 := by omega
    have eb : gN_bitten (f_X2_walk n v (nI p) (nI h)).2 = gN_bitten n ||| f_X8_bit (nI j) := by first | rw [wk_bitten, e, if_neg (nI9 (by omega))] | rw [wk_biters, e, if_neg (nI9 (by omega))]
    have ei : gN_biters (f_X2_walk n v (nI p) (nI h)).2 = f_X8_withCell (gN_biters n) (nI j) (nI p + 1) := by first | rw [wk_bitten, e, if_neg (nI9 (by omega))] | rw [wk_biters, e, if_neg (nI9 (by omega))]
    have ewq : ∀ q, wb (f_X2_walk n v (nI p) (nI h)).2 q = (wb n q || decide (q = j)) := fun q => by
      unfold wb
      rw [wk_wolves, eb, hb_set (by omega), ← Bool.or_assoc]
    have hwn : wb n j = false := by unfold wb; rw [hwj, hbj]; rfl
    have hcW : fa_cnt (wb (f_X2_walk n v (nI p) (nI h)).2) 6 = fa_cnt (wb n) 6 + 1 := by
      rw [cnt_set (p := wb n) (q := wb (f_X2_walk n v (nI p) (nI h)).2) (j := j) hwn (by rw [ewq]; simp) (fun i hi => by rw [ewq]; simp [hi]) 6, if_pos hj6]
    have hwp : wb n p = true := by unfold wb; rw [hw]; rfl
    have hpj : p ≠ j := fun z => by rw [z, hwj] at hw; cases hw
    have ec : ∀ q, q < 6 → cn (gN_biters (f_X2_walk n v (nI p) (nI h)).2) q = if j = q then p + 1 else cn (gN_biters n) q := fun q hq => by
      rw [ei, nI_add1, cn_wc (by omega) (by omega) (by omega)]
    refine ⟨fun q hq => ⟨(i1 q hq).1, ?_, (i1 q hq).2.2.1, hmo q hq⟩, ?_, hsh, hts, fun q => if q = j then d p + 1 else d q, ?_⟩
    · rw [eb, hb_set (by omega), (i1 q hq).2.1]; simp; omega
    · intro q hq
      show hb (gN_wolves n) q = false
      rw [eb, hb_set (by omega), Bool.or_eq_true, decide_eq_true_eq] at hq
      rcases hq with hq | hq
      · exact i2 q hq
      · rw [hq]; exact hwj
    · intro q hq
      rw [ec q (by omega), hcW, ewq]
      dsimp only
      by_cases c : q = j
      · subst c
        rw [if_pos rfl, if_pos rfl]
        refine ⟨Or.inr ⟨p, hp, rfl, hw, ?_, ?_⟩, fun _ => ?_⟩
        · rw [if_neg hpj]
        · simp
        · have := (i5 p hp).2 hwp; omega
      · rw [if_neg (fun z => c z.symm), if_neg c]
        refine ⟨?_, fun hz => ?_⟩
        · rcases (i5 q hq).1 with z | ⟨b, z1, z2, z3, z4, z5⟩
          · exact Or.inl z
          · refine Or.inr ⟨b, z1, z2, z3, ?_, ?_⟩
            · rw [if_neg (fun y => by rw [y, hwj] at z3; cases z3)]; exact z4
            · rw [z5]; rfl
        · have : wb n q = true := by simpa [c] using hz
          have := (i5 q hq).2 this
          omega
end WK
