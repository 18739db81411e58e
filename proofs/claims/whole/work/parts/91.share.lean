/-! shares: the class's recursion -/
section SHC
variable {v : TVi} {path home kin : Nat → Int32}
def F1 (p : Nat) (n : TN) : Nat := b1 (wb n p)
def F2 (v : TVi) (p : Nat) (n : TN) : Nat := if wb n p = true then 6 ^ gVi_people v else Sp v (F1 p) (gVi_people v) 0 (f_X2_nextNight n).2
theorem pw6 : ∀ m, m < 13 → f_X8_powerOf 6 m = lN (6 ^ m) := by decide +kernel
theorem ea6 : ∀ c, c < 5 → (f_sh_each (nI c)).toInt64 = lN (if c = 0 then 0 else 6 / c) := by decide +kernel
theorem st6 : ∀ c, c < 4 → ∀ d, d ≤ c → (f_sh_each (nI c) * nI d = nI ((if c = 0 then 0 else 6 / c) * d)) ∧ f_sh_still (f_sh_each (nI c)) (nI 0) = 6 := by decide +kernel
theorem shL (goals each : Int32) (nx : Nat → Int64) (y : Nat → Nat) (e z : Nat) (he : each.toInt64 = lN e) (hy : ∀ h, h < 4 → hb goals h = true → nx h = lN (y h)) : f_sh_L goals each nx 4 0 (lN z) = lN (z + e * s4 (fun h => if hb goals h = true then y h else 0)) := by
  have step : ∀ h, h < 4 → ∀ z : Nat, (if f_X8_has goals (nI h) = true then lN z + each.toInt64 * nx h else lN z) = lN (z + e * (if hb goals h = true then y h else 0)) := by
    intro h hh z
    rw [has_hb (by omega)]
    by_cases c : hb goals h = true
    · rw [if_pos c, if_pos c, he, hy h hh c, lN_mul, lN_add]
    · rw [if_neg c, if_neg c, Nat.mul_zero, Nat.add_zero]
  simp only [f_sh_L]
  rw [step 0 (by omega), step 1 (by omega), step 2 (by omega), step 3 (by omega)]
  unfold s4
  dsimp only
  rw [Nat.mul_add, Nat.mul_add, Nat.mul_add]
  congr 1
  omega
theorem bc4 {x : Int32} (h : ∀ i, 4 ≤ i → hb x i = false) : f_J6_bitCount_0f7a4 x = nI (g4 x) := by
  obtain ⟨m, hm, rfl⟩ := small16 h
  exact (g416 m hm).2.1
theorem s4_split {x : Int32} {H0 X Y : Nat} (h4 : H0 < 4) {f : Nat → Nat} (hX : ∀ h, h < 4 → ¬ h = H0 → f h = X) (hY : f H0 = Y) : s4 (fun h => if hb x h = true then f h else 0) + b1 (hb x H0) * X = g4 x * X + b1 (hb x H0) * Y := by
  have e : ∀ i, i < 4 → (if hb x i = true then f i else 0) = b1 (hb x i) * f i := fun i hi => by
    unfold b1
    by_cases z : hb x i = true
    · rw [if_pos z, if_pos z, Nat.one_mul]
    · rw [if_neg z, if_neg z, Nat.zero_mul]
  unfold s4 g4
  dsimp only
  rw [e 0 (by omega), e 1 (by omega), e 2 (by omega), e 3 (by omega), Nat.add_mul, Nat.add_mul, Nat.add_mul]
  rcases (show H0 = 0 ∨ H0 = 1 ∨ H0 = 2 ∨ H0 = 3 by omega) with rfl | rfl | rfl | rfl
  · rw [hY, hX 1 (by omega) (by omega), hX 2 (by omega) (by omega), hX 3 (by omega) (by omega)]; omega
  · rw [hY, hX 0 (by omega) (by omega), hX 2 (by omega) (by omega), hX 3 (by omega) (by omega)]; omega
  · rw [hY, hX 0 (by omega) (by omega), hX 1 (by omega) (by omega), hX 3 (by omega) (by omega)]; omega
  · rw [hY, hX 0 (by omega) (by omega), hX 1 (by omega) (by omega), hX 2 (by omega) (by omega)]; omega
theorem g4_at {x : Int32} {h : Nat} (h4 : h < 4) : g4 (x &&& f_X8_bit (nI h)) = b1 (hb x h) := by
  have e : ∀ i, i < 4 → b1 (hb (x &&& f_X8_bit (nI h)) i) = if i = h then b1 (hb x h) else 0 := fun i hi => by
    rw [hb_and, hb_bit (by omega)]
    by_cases c : i = h
    · rw [c, if_pos rfl, decide_eq_true rfl, Bool.and_true]
    · rw [if_neg c, decide_eq_false c, Bool.and_false]; rfl
  unfold g4
  rw [e 0 (by omega), e 1 (by omega), e 2 (by omega), e 3 (by omega)]
  rcases (show h = 0 ∨ h = 1 ∨ h = 2 ∨ h = 3 by omega) with rfl | rfl | rfl | rfl <;> simp
theorem F1_LQ {p : Nat} (hp : p < gVi_people v) : ∀ k n m, LQ v (cn (gVi_homes v) p) k n m → F1 p n = F1 p m := by
  rintro k n m ⟨l1, l2, l3, l4, l5, l6, l7⟩
  unfold F1 wb
  rw [l1, l7 p hp rfl]
theorem sh_wb (n : TN) {p : Nat} (hp : p < 32) : f_X8_has (gN_wolves n ||| gN_bitten n) (nI p) = wb n p := by
  rw [has_hb hp, hb_or]; rfl
theorem sh1 (W : VR v path home kin) {p : Nat} (hp : p < gVi_people v) : ∀ r k n m, k + r = gVi_people v → r + 1 ≤ m → f_sh v (nI p) m n k 1 = lN (Sp v (F1 p) r k n) := by
  have hP := W.hP
  have h4 := W.hcn (p := p) (by omega)
  intro r
  induction r with
  | zero =>
    intro k n m hk hm
    obtain ⟨m, rfl⟩ : ∃ m', m = m' + 1 := ⟨m - 1, by omega⟩
    simp only [f_sh, Sp]
    rw [sh_wb n (by omega)]
    unfold F1
    by_cases c : wb n p = true
    · rw [if_pos c, c, show gVi_people v * 1 - k = 0 by omega]; rfl
    · rw [if_neg c, if_pos (by omega), if_pos (Nat.le_refl 1), Bool.eq_false_iff.mpr c]; rfl
  | succ r ih =>
    intro k n m hk hm
    obtain ⟨m, rfl⟩ : ∃ m', m = m' + 1 := ⟨m - 1, by omega⟩
    by_cases c : wb n p = true
    · rw [Sp_const W (F := F1 p) (p := p) (c := 1) (fun n h => by unfold F1; rw [h]; rfl) (r + 1) k n (by omega) c, Nat.mul_one]
      simp only [f_sh]
      rw [sh_wb n (by omega), if_pos c, show gVi_people v * 1 - k = r + 1 by omega, pw6 _ (by omega)]
    · have hg4 := goals_4 W n (p := k) (by omega)
      have hg3 := goals_3 W n (p := k) (by omega)
      have hx := ih (k + 1) n m (by omega) (by omega)
      have hoff : ∀ h, h < 4 → ¬ h = cn (gVi_homes v) p → Sp v (F1 p) r (k + 1) (f_X2_walk n v (nI k) (nI h)).2 = Sp v (F1 p) r (k + 1) n := fun h hh ne => Sp_LQ W h4 (F1_LQ hp) r (k + 1) _ _ (by omega) (LQ_off n W h4 hh ne (by omega))
      have hsp := s4_split (x := f_X2_goals n v (nI k)) h4 (f := fun h => Sp v (F1 p) r (k + 1) (f_X2_walk n v (nI k) (nI h)).2) hoff rfl
      simp only [f_sh, Sp]
      rw [sh_wb n (by omega), if_neg c, if_neg (show ¬ gVi_people v ≤ k by omega), bc4 hg4]
      have egl : f_sh_goals v (nI p) (f_X2_goals n v (nI k)) 1 = f_X2_goals n v (nI k) &&& f_X8_bit (nI (cn (gVi_homes v) p)) := by
        unfold f_sh_goals; rw [if_pos rfl, cell_cn]
      rw [egl]
      have hbg : ∀ i, hb (f_X2_goals n v (nI k) &&& f_X8_bit (nI (cn (gVi_homes v) p))) i = (hb (f_X2_goals n v (nI k)) i && decide (i = cn (gVi_homes v) p)) := fun i => by rw [hb_and, hb_bit (by omega)]
      have hbc : f_J6_bitCount_0f7a4 (f_X2_goals n v (nI k) &&& f_X8_bit (nI (cn (gVi_homes v) p))) = nI (b1 (hb (f_X2_goals n v (nI k)) (cn (gVi_homes v) p))) := by
        rw [bc4 (fun i hi => by rw [hbg, hg4 i hi]; rfl), g4_at h4]
      generalize hG : f_X2_goals n v (nI k) = G at *
      generalize hH0 : cn (gVi_homes v) p = H0 at *
      have hs4 : s4 (fun h => if hb (G &&& f_X8_bit (nI H0)) h = true then Sp v (F1 p) r (k + 1) (f_X2_walk n v (nI k) (nI h)).2 else 0) = b1 (hb G H0) * Sp v (F1 p) r (k + 1) (f_X2_walk n v (nI k) (nI H0)).2 := by
        have e : ∀ i, i < 4 → (if hb (G &&& f_X8_bit (nI H0)) i = true then Sp v (F1 p) r (k + 1) (f_X2_walk n v (nI k) (nI i)).2 else 0) = if i = H0 then b1 (hb G H0) * Sp v (F1 p) r (k + 1) (f_X2_walk n v (nI k) (nI H0)).2 else 0 := fun i _ => by
          rw [hbg i]
          by_cases z : i = H0
          · rw [if_pos z, z, decide_eq_true rfl, Bool.and_true]
            unfold b1
            cases hb G H0 <;> simp
          · rw [if_neg z, decide_eq_false z, Bool.and_false, if_neg (by decide)]
        unfold s4
        dsimp only
        rw [e 0 (by omega), e 1 (by omega), e 2 (by omega), e 3 (by omega)]
        rcases (show H0 = 0 ∨ H0 = 1 ∨ H0 = 2 ∨ H0 = 3 by omega) with rfl | rfl | rfl | rfl <;> simp
      have hst : f_sh_still (f_sh_each (nI (g4 G))) (G &&& f_X8_bit (nI H0)) = nI (6 - (if g4 G = 0 then 0 else 6 / g4 G) * b1 (hb G H0)) := by
        unfold f_sh_still
        rw [hbc]
        have b2 : b1 (hb G H0) ≤ 1 := by unfold b1; split <;> omega
        have all : ∀ c, c ≤ 3 → ∀ b, b ≤ 1 → (6 - f_sh_each (nI c) * nI b : Int32) = nI (6 - (if c = 0 then 0 else 6 / c) * b) := by decide +kernel
        exact all _ hg3 _ b2
      have e0 : (if f_sh_still (f_sh_each (nI (g4 G))) (G &&& f_X8_bit (nI H0)) = 0 then (0 : Int64) else (f_sh_still (f_sh_each (nI (g4 G))) (G &&& f_X8_bit (nI H0))).toInt64 * f_sh v (nI p) m n (k + 1) 1) = lN ((6 - (if g4 G = 0 then 0 else 6 / g4 G) * b1 (hb G H0)) * Sp v (F1 p) r (k + 1) n) := by
        rw [hst, hx]
        generalize hq : 6 - (if g4 G = 0 then 0 else 6 / g4 G) * b1 (hb G H0) = q
        have hq6 : q ≤ 6 := by omega
        by_cases z : q = 0
        · rw [z, if_pos (show nI 0 = 0 from rfl), Nat.zero_mul]; rfl
        · rw [if_neg (fun y => z (by have := congrArg tn y; rw [tn_nI (by omega)] at this; exact this)), nI64 q (by omega), lN_mul]
      rw [e0, shL _ _ _ (fun h => Sp v (F1 p) r (k + 1) (f_X2_walk n v (nI k) (nI h)).2) _ _ (ea6 _ (by omega)) (fun h hh _ => ih (k + 1) _ m (by omega) (by omega)), hs4]
      congr 1
      have hb0 : g4 G = 0 → b1 (hb G H0) = 0 := fun z => by
        unfold g4 at z
        rcases (show H0 = 0 ∨ H0 = 1 ∨ H0 = 2 ∨ H0 = 3 by omega) with rfl | rfl | rfl | rfl <;> omega
      have b2 : b1 (hb G H0) = 0 ∨ b1 (hb G H0) = 1 := by unfold b1; split <;> omega
      generalize Sp v (F1 p) r (k + 1) n = X at *
      generalize Sp v (F1 p) r (k + 1) (f_X2_walk n v (nI k) (nI H0)).2 = Y at *
      generalize s4 _ = S at *
      generalize b1 (hb G H0) = b at *
      generalize g4 G = cc at *
      rcases (show cc = 0 ∨ cc = 1 ∨ cc = 2 ∨ cc = 3 by omega) with rfl | rfl | rfl | rfl
      · rw [hb0 rfl, if_pos rfl, if_pos rfl]; omega
      · rcases b2 with rfl | rfl
        · simp [wt] at hsp ⊢; omega
        · simp [wt] at hsp ⊢; omega
      · rcases b2 with rfl | rfl
        · simp [wt] at hsp ⊢; omega
        · simp [wt] at hsp ⊢; omega
      · rcases b2 with rfl | rfl
        · simp [wt] at hsp ⊢; omega
        · simp [wt] at hsp ⊢; omega
theorem sh2 (W : VR v path home kin) {p : Nat} (hp : p < gVi_people v) : ∀ r k n m, k + r = gVi_people v → r + 1 + (gVi_people v + 1) ≤ m → f_sh v (nI p) m n k 2 = lN (Sp v (F2 v p) r k n) := by
  have hP := W.hP
  intro r
  induction r with
  | zero =>
    intro k n m hk hm
    obtain ⟨m, rfl⟩ : ∃ m', m = m' + 1 := ⟨m - 1, by omega⟩
    simp only [f_sh, Sp]
    rw [sh_wb n (by omega)]
    unfold F2
    by_cases c : wb n p = true
    · rw [if_pos c, if_pos c, show gVi_people v * 2 - k = gVi_people v by omega, pw6 _ (by omega)]
    · rw [if_neg c, if_neg c, if_pos (by omega), if_neg (by omega)]
      exact sh1 W hp (gVi_people v) 0 _ m (by omega) (by omega)
  | succ r ih =>
    intro k n m hk hm
    obtain ⟨m, rfl⟩ : ∃ m', m = m' + 1 := ⟨m - 1, by omega⟩
    by_cases c : wb n p = true
    · rw [Sp_const W (F := F2 v p) (p := p) (c := 6 ^ gVi_people v) (fun n h => by unfold F2; rw [if_pos h]) (r + 1) k n (by omega) c, ← Nat.pow_add]
      simp only [f_sh]
      rw [sh_wb n (by omega), if_pos c, show gVi_people v * 2 - k = r + 1 + gVi_people v by omega, pw6 _ (by omega)]
    · have hg4 := goals_4 W n (p := k) (by omega)
      have hg3 := goals_3 W n (p := k) (by omega)
      have hx := ih (k + 1) n m (by omega) (by omega)
      simp only [f_sh, Sp]
      rw [sh_wb n (by omega), if_neg c, if_neg (show ¬ gVi_people v ≤ k by omega), bc4 hg4]
      have egl : f_sh_goals v (nI p) (f_X2_goals n v (nI k)) 2 = f_X2_goals n v (nI k) := by
        unfold f_sh_goals; rw [if_neg (by decide)]
      rw [egl]
      have hst : f_sh_still (f_sh_each (nI (g4 (f_X2_goals n v (nI k))))) (f_X2_goals n v (nI k)) = if g4 (f_X2_goals n v (nI k)) = 0 then 6 else 0 := by
        unfold f_sh_still
        rw [bc4 hg4]
        have all : ∀ c, c ≤ 3 → (6 - f_sh_each (nI c) * nI c : Int32) = if c = 0 then 6 else 0 := by decide +kernel
        exact all _ hg3
      rw [hst]
      have hL := fun z => shL (f_X2_goals n v (nI k)) (f_sh_each (nI (g4 (f_X2_goals n v (nI k))))) (fun h => f_sh v (nI p) m (f_X2_walk n v (nI k) (nI h)).2 (k + 1) 2) (fun h => Sp v (F2 v p) r (k + 1) (f_X2_walk n v (nI k) (nI h)).2) _ z (ea6 _ (by omega)) (fun h hh _ => ih (k + 1) _ m (by omega) (by omega))
      by_cases z : g4 (f_X2_goals n v (nI k)) = 0
      · rw [if_pos z, if_pos z, if_neg (by decide), hx, show (6 : Int32).toInt64 = lN 6 from rfl, lN_mul, hL, if_pos z, Nat.zero_mul, Nat.add_zero]
      · rw [if_neg z, if_neg z, if_pos rfl, show (0 : Int64) = lN 0 from rfl, hL, if_neg z, Nat.zero_add]
        unfold wt
        rw [if_neg z]
end SHC
