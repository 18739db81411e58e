/-! shares: the other side's sums, and that both say the same -/
section DNG
variable {v : TVi} {path home kin a : Nat → Int32} {n : TN}
theorem w6 : ∀ c, c < 5 → ¬ c = 0 → ((6 : Int32) / nI c).toInt64 = lN (6 / c) := by decide +kernel
theorem bits_g4 {x : Int32} (h : ∀ i, 4 ≤ i → hb x i = false) : f_X9_bits x = nI (g4 x) := by
  obtain ⟨m, hm, rfl⟩ := small16 h
  exact (g416 m hm).1
theorem pl_in {x : Int32} (h : ∀ i, 4 ≤ i → hb x i = false) {j : Nat} (hj : j < g4 x) : hb x (pl x j) = true ∧ pl x j < 4 := by
  obtain ⟨m, hm, rfl⟩ := small16 h
  exact (g416 m hm).2.2 j hj
theorem run_rel (W : VR v path home kin) : ∀ r k i (l : Int64) n y, k + r = gVi_people v → NR (gVi_people v) n y → NI (gVi_houses v) (gVi_people v) n →
    (f_X9_goesBy_L7 (gVi_houses v) (gVi_people v) home path kin r k i l y).2.1 = l * lN (Rw v r k i n) ∧ NR (gVi_people v) (Rn v r k i n) (f_X9_goesBy_L7 (gVi_houses v) (gVi_people v) home path kin r k i l y).2.2 ∧ NI (gVi_houses v) (gVi_people v) (Rn v r k i n) := by
  have hP := W.hP
  intro r
  induction r with
  | zero =>
    intro k i l n y _ N I
    exact ⟨(Int64.mul_one l).symm, N, I⟩
  | succ r ih =>
    intro k i l n y hk N I
    have hg4 := goals_4 W n (p := k) (by omega)
    have hg3 := goals_3 W n (p := k) (by omega)
    have eb : tn (f_X9_bits (f_X9_mayOf (gVi_houses v) y home path k)) = g4 (f_X2_goals n v (nI k)) := by
      rw [goals_eq N W (by omega), bits_g4 hg4, tn_nI (by omega)]
    simp only [f_X9_goesBy_L7, Rw, Rn]
    unfold f_X9_goesBy_x1 stp nxi
    rw [eb, goals_eq N W (by omega)]
    by_cases c : g4 (f_X2_goals n v (nI k)) = 0
    · simp only [if_pos c]
      obtain ⟨x1, x2, x3⟩ := ih (k + 1) i (l * 6) n y (by omega) N I
      refine ⟨?_, x2, x3⟩
      rw [x1, c, Int64.mul_assoc, show (6 : Int64) = lN 6 from rfl, lN_mul]
      rfl
    · simp only [if_neg c]
      have hm : i % g4 (f_X2_goals n v (nI k)) < g4 (f_X2_goals n v (nI k)) := Nat.mod_lt _ (by omega)
      have hin := (pl_in hg4 hm).1
      obtain ⟨x1, x2, x3⟩ := ih (k + 1) (i / g4 (f_X2_goals n v (nI k))) (l * (6 / nI (g4 (f_X2_goals n v (nI k)))).toInt64) _ _ (by omega) (walk_NR N I W (by omega) hin) (walk_NI I W (by omega) hin)
      refine ⟨?_, x2, x3⟩
      unfold pl at x1
      rw [x1, Int64.mul_assoc, w6 _ (by omega) c, lN_mul]
      unfold wt pl
      rw [if_neg c]
theorem Mx_le (W : VR v path home kin) : ∀ r k n, k + r ≤ 6 → 0 < Mx v r k n ∧ Mx v r k n ≤ 3 ^ r := by
  intro r
  induction r with
  | zero => intro k n _; exact ⟨Nat.zero_lt_one, Nat.le_refl 1⟩
  | succ r ih =>
    intro k n hk
    obtain ⟨h1, h2⟩ := ih (k + 1) n (by omega)
    have hg3 := goals_3 W n (p := k) (by omega)
    have hd : 0 < dgt (g4 (f_X2_goals n v (nI k))) ∧ dgt (g4 (f_X2_goals n v (nI k))) ≤ 3 := by unfold dgt; split <;> omega
    simp only [Mx]
    refine ⟨Nat.mul_pos hd.1 h1, ?_⟩
    rw [Nat.pow_succ, Nat.mul_comm (3 ^ r) 3]
    exact Nat.mul_le_mul hd.2 h2
theorem ways_rel (W : VR v path home kin) (N : NR (gVi_people v) n a) : ∀ r k l, k + r ≤ 6 → f_X9_waysNow_L4 (gVi_houses v) a home path r k (nI l) = nI (l * Mx v r k n) := by
  intro r
  induction r with
  | zero => intro k l _; simp only [f_X9_waysNow_L4, Mx, Nat.mul_one]
  | succ r ih =>
    intro k l hk
    have hg4 := goals_4 W n (p := k) (by omega)
    have hg3 := goals_3 W n (p := k) (by omega)
    simp only [f_X9_waysNow_L4, Mx]
    rw [goals_eq N W (by omega), bits_g4 hg4]
    have e : (if nI (g4 (f_X2_goals n v (nI k))) ≤ 0 then (1 : Int32) else nI (g4 (f_X2_goals n v (nI k)))) = nI (dgt (g4 (f_X2_goals n v (nI k)))) := by
      have all : ∀ c, c ≤ 3 → (if nI c ≤ 0 then (1 : Int32) else nI c) = nI (dgt c) := by decide +kernel
      exact all _ hg3
    rw [e, pk_mul, ih (k + 1) _ (by omega), Nat.mul_assoc]
theorem ways_now (W : VR v path home kin) (N : NR (gVi_people v) n a) : tn (f_X9_waysNow (gVi_houses v) (gVi_people v) a home path) = Mx v (gVi_people v) 0 n := by
  have hP := W.hP
  unfold f_X9_waysNow
  rw [show (1 : Int32) = nI 1 from rfl, ways_rel W N _ 0 1 (by omega), Nat.one_mul, tn_nI]
  have h1 := (Mx_le W (gVi_people v) 0 n (by omega)).2
  have h2 : 3 ^ gVi_people v ≤ 3 ^ 6 := Nat.pow_le_pow_right (by omega) hP
  exact Nat.lt_of_le_of_lt h1 (Nat.lt_of_le_of_lt h2 (by decide))
/-- one night, gone by one way -/
theorem goes_rel (W : VR v path home kin) (N : NR (gVi_people v) n a) (I : NI (gVi_houses v) (gVi_people v) n) (i : Nat) :
    (f_X9_goesBy (gVi_houses v) (gVi_people v) a home path kin i).1 = lN (Rw v (gVi_people v) 0 i n) ∧ NR (gVi_people v) (f_X2_nextNight (Rn v (gVi_people v) 0 i n)).2 (f_X9_goesBy (gVi_houses v) (gVi_people v) a home path kin i).2 ∧ NI (gVi_houses v) (gVi_people v) (f_X2_nextNight (Rn v (gVi_people v) 0 i n)).2 := by
  obtain ⟨x1, x2, x3⟩ := run_rel W (gVi_people v) 0 i 1 n a (by omega) N I
  unfold f_X9_goesBy
  exact ⟨x1.trans (Int64.one_mul _), dawn_NR x2 x3 W.hP, dawn_NI x3⟩
theorem of_dawn (N : NR (gVi_people v) (f_X2_nextNight n).2 a) {p : Nat} (hp : p < 6) : f_X9_of a p 0 = bI (wb n p) := by
  rw [N.wolf hp, nn_wolves, hb_or]; rfl
theorem bI64 (b : Bool) : (bI b).toInt64 = lN (b1 b) := by cases b <;> rfl
theorem second_rel (W : VR v path home kin) (N : NR (gVi_people v) n a) (I : NI (gVi_houses v) (gVi_people v) n) {p : Nat} (hp : p < gVi_people v) (bt : Nat → Int32) : ∀ r k y,
    (f_X9_secondOf_L22 (gVi_houses v) (gVi_people v) a bt home path kin p r k (lN (sumN k (fun i => Rw v (gVi_people v) 0 i n * F1 p (Rn v (gVi_people v) 0 i n)))) y).1 = lN (sumN (k + r) (fun i => Rw v (gVi_people v) 0 i n * F1 p (Rn v (gVi_people v) 0 i n))) := by
  have hP := W.hP
  intro r
  induction r with
  | zero => intro k y; rfl
  | succ r ih =>
    intro k y
    simp only [f_X9_secondOf_L22]
    have N2 : NR (gVi_people v) n (f_X9_copies (f_X9_copies a bt) y) := N.congr fun i hi => ((copies_in _ _ hi).trans (copies_in _ _ hi)).symm
    obtain ⟨x1, x2, x3⟩ := goes_rel W N2 I k
    rw [of_dawn x2 (by omega), x1, bI64, lN_mul, lN_add, show k + (r + 1) = k + 1 + r by omega]
    have e : sumN k (fun i => Rw v (gVi_people v) 0 i n * F1 p (Rn v (gVi_people v) 0 i n)) + b1 (wb (Rn v (gVi_people v) 0 k n) p) * Rw v (gVi_people v) 0 k n = sumN (k + 1) (fun i => Rw v (gVi_people v) 0 i n * F1 p (Rn v (gVi_people v) 0 i n)) := by
      simp only [sumN]
      rw [Nat.mul_comm (b1 _)]
      rfl
    rw [e]
    exact ih (k + 1) _
theorem second_sum (W : VR v path home kin) (N : NR (gVi_people v) n a) (I : NI (gVi_houses v) (gVi_people v) n) {p : Nat} (hp : p < gVi_people v) (bt : Nat → Int32) : (f_X9_secondOf (gVi_houses v) (gVi_people v) a bt home path kin p).1 = lN (Sp v (F1 p) (gVi_people v) 0 n) := by
  have hP := W.hP
  unfold f_X9_secondOf
  have := second_rel W N I hp bt (tn (f_X9_waysNow (gVi_houses v) (gVi_people v) a home path)) 0 a
  rw [show lN (sumN 0 (fun i => Rw v (gVi_people v) 0 i n * F1 p (Rn v (gVi_people v) 0 i n))) = 0 from rfl] at this
  rw [this, Nat.zero_add, ways_now W N, sum_Sp W (F1 p) _ 0 n (by omega)]
theorem L39_6 : ∀ r, r < 7 → f_X9_danger_L39 r 0 1 = lN (6 ^ r) := by decide +kernel
theorem danger_rel (W : VR v path home kin) (N : NR (gVi_people v) n a) (I : NI (gVi_houses v) (gVi_people v) n) {p : Nat} (hp : p < gVi_people v) (bg : Nat → Int32) {p2 : Int32} (h12 : p2 = 1 ∨ p2 = 2) : ∀ r k y z,
    (f_X9_danger_L85 (gVi_houses v) (gVi_people v) a bg home path kin (nI p) p2 r k (lN (sumN k (fun i => Rw v (gVi_people v) 0 i n * (if p2 = 1 then F1 p (Rn v (gVi_people v) 0 i n) else F2 v p (Rn v (gVi_people v) 0 i n))))) y z).1 = lN (sumN (k + r) (fun i => Rw v (gVi_people v) 0 i n * (if p2 = 1 then F1 p (Rn v (gVi_people v) 0 i n) else F2 v p (Rn v (gVi_people v) 0 i n)))) := by
  have hP := W.hP
  intro r
  induction r with
  | zero => intro k y z; rfl
  | succ r ih =>
    intro k y z
    simp only [f_X9_danger_L85]
    have N2 : NR (gVi_people v) n (f_X9_copies (f_X9_copies a bg) y) := N.congr fun i hi => ((copies_in _ _ hi).trans (copies_in _ _ hi)).symm
    obtain ⟨x1, x2, x3⟩ := goes_rel W N2 I k
    have e : f_X9_danger_x1 (gVi_houses v) (gVi_people v) a bg home path kin (nI p) p2 k (lN (sumN k (fun i => Rw v (gVi_people v) 0 i n * (if p2 = 1 then F1 p (Rn v (gVi_people v) 0 i n) else F2 v p (Rn v (gVi_people v) 0 i n))))) y z = lN (sumN (k + 1) (fun i => Rw v (gVi_people v) 0 i n * (if p2 = 1 then F1 p (Rn v (gVi_people v) 0 i n) else F2 v p (Rn v (gVi_people v) 0 i n)))) := by
      unfold f_X9_danger_x1
      rw [tn_nI (by omega), of_dawn x2 (by omega), x1]
      simp only [sumN]
      rcases h12 with rfl | rfl
      · rw [if_pos (show tn (1 : Int32) = 1 from rfl), if_pos (show (1 : Int32) = 1 from rfl)]
        have ec : lN (sumN k (fun i => Rw v (gVi_people v) 0 i n * if (1 : Int32) = 1 then F1 p (Rn v (gVi_people v) 0 i n) else F2 v p (Rn v (gVi_people v) 0 i n))) + (bI (wb (Rn v (gVi_people v) 0 k n) p)).toInt64 * lN (Rw v (gVi_people v) 0 k n) * 1 = lN (sumN k (fun i => Rw v (gVi_people v) 0 i n * if (1 : Int32) = 1 then F1 p (Rn v (gVi_people v) 0 i n) else F2 v p (Rn v (gVi_people v) 0 i n)) + Rw v (gVi_people v) 0 k n * F1 p (Rn v (gVi_people v) 0 k n)) := by
          rw [Int64.mul_one, bI64, lN_mul, lN_add, Nat.mul_comm (b1 _)]; rfl
        rw [if_pos (show tn (1 : Int32) = 1 from rfl), ec, ite_self]
      · rw [if_neg (show ¬ tn (2 : Int32) = 1 from by decide), if_neg (show ¬ tn (2 : Int32) = 1 from by decide), if_neg (show ¬ (2 : Int32) = 1 from by decide)]
        unfold F2
        by_cases c : wb (Rn v (gVi_people v) 0 k n) p = true
        · rw [if_pos (show bI (wb (Rn v (gVi_people v) 0 k n) p) = 1 from bI_eq1.mpr c), if_pos c, c, L39_6 _ (by omega), show (bI true).toInt64 = lN 1 from rfl, lN_mul, lN_mul, lN_add, Nat.one_mul]
        · rw [if_neg (show ¬ bI (wb (Rn v (gVi_people v) 0 k n) p) = 1 from fun y => c (bI_eq1.mp y)), if_neg c, second_sum W x2 x3 hp, lN_mul, lN_add]
    rw [e, show k + (r + 1) = k + 1 + r by omega]
    exact ih (k + 1) _ _
theorem F1_le (p : Nat) (n : TN) : F1 p n ≤ 1 := by unfold F1 b1; split <;> omega
theorem F2_le (W : VR v path home kin) (p : Nat) (n : TN) : F2 v p n ≤ 6 ^ gVi_people v := by
  have hP := W.hP
  unfold F2
  split
  · exact Nat.le_refl _
  · have := Sp_le W (F := F1 p) (c := 1) (F1_le p) (gVi_people v) 0 (f_X2_nextNight n).2 (by omega)
    rwa [Nat.mul_one] at this
theorem pow6_lt : ∀ P, P ≤ 6 → 0 < 6 ^ P ∧ 6 ^ P * 6 ^ P < 2 ^ 50 ∧ 6 ^ P < 2 ^ 50 := by decide +kernel
/-- the two sums, and what the other side's part asks -/
theorem danger_sum (W : VR v path home kin) (N : NR (gVi_people v) n a) (I : NI (gVi_houses v) (gVi_people v) n) {p : Nat} (hp : p < gVi_people v) (bg bt : Nat → Int32) {p2 : Int32} (h12 : p2 = 1 ∨ p2 = 2) :
    ∃ x y, (f_X9_danger_L85 (gVi_houses v) (gVi_people v) a bg home path kin (nI p) p2 (tn (f_X9_waysNow (gVi_houses v) (gVi_people v) a home path)) 0 0 a bt).1 = lN x ∧ f_sh v (nI p) 14 n 0 (tn p2) = lN x ∧ (if tn p2 = 1 then (f_X9_danger_L39 (gVi_people v) 0 1) else ((f_X9_danger_L39 (gVi_people v) 0 1) * (f_X9_danger_L39 (gVi_people v) 0 1))) = lN y ∧ f_X8_powerOf 6 (gVi_people v * tn p2) = lN y ∧ 0 < y ∧ x ≤ y ∧ y < 2 ^ 50 := by
  have hP := W.hP
  obtain ⟨q0, q2, q1⟩ := pow6_lt (gVi_people v) hP
  have hd := danger_rel W N I hp bg h12 (tn (f_X9_waysNow (gVi_houses v) (gVi_people v) a home path)) 0 a bt
  rw [show lN (sumN 0 (fun i => Rw v (gVi_people v) 0 i n * (if p2 = 1 then F1 p (Rn v (gVi_people v) 0 i n) else F2 v p (Rn v (gVi_people v) 0 i n)))) = 0 from rfl, Nat.zero_add, ways_now W N] at hd
  rw [ways_now W N, hd]
  rcases h12 with rfl | rfl
  · refine ⟨Sp v (F1 p) (gVi_people v) 0 n, 6 ^ gVi_people v, ?_, ?_, ?_, ?_, q0, ?_, q1⟩
    · rw [← sum_Sp W (F1 p) _ 0 n (by omega)]
      simp only [if_true]
    · exact sh1 W hp (gVi_people v) 0 n 14 (by omega) (by omega)
    · rw [if_pos (show tn (1 : Int32) = 1 from rfl), L39_6 _ (by omega)]
    · rw [show tn (1 : Int32) = 1 from rfl, Nat.mul_one, pw6 _ (by omega)]
    · have := Sp_le W (F := F1 p) (c := 1) (F1_le p) (gVi_people v) 0 n (by omega)
      rwa [Nat.mul_one] at this
  · have n21 : ¬ (2 : Int32) = 1 := by decide
    refine ⟨Sp v (F2 v p) (gVi_people v) 0 n, 6 ^ gVi_people v * 6 ^ gVi_people v, ?_, ?_, ?_, ?_, Nat.mul_pos q0 q0, ?_, q2⟩
    · rw [← sum_Sp W (F2 v p) _ 0 n (by omega)]
      simp only [if_neg n21]
    · exact sh2 W hp (gVi_people v) 0 n 14 (by omega) (by omega)
    · rw [if_neg (show ¬ tn (2 : Int32) = 1 from by decide), L39_6 _ (by omega), lN_mul]
    · rw [show tn (2 : Int32) = 2 from rfl, pw6 _ (by omega), Nat.mul_two, Nat.pow_add]
    · exact Sp_le W (F2_le W p) (gVi_people v) 0 n (by omega)
end DNG
section DNQ
variable {kS : Int32} {tl : Nat} {bytes : Nat → Int32} {v : TVi} {now : TN} {st ct : Nat} {bs ss : Nat → TN} {sc : Nat} {kinds moons places values path home kin a was kept isKept text sight : Nat → Int32}
theorem in12 (x : Int32) : f_X9_in x.toInt64 1 2 = true ↔ (x = 1 ∨ x = 2) := by
  have h := inI x 1 2
  rw [show (1 : Int32).toInt64 = 1 from rfl, show (2 : Int32).toInt64 = 2 from rfl] at h
  rw [h]
  constructor
  · rintro ⟨a1, a2⟩
    have b1 := Int32.not_lt.mp a1
    have b2 := Int32.not_lt.mp a2
    rw [Int32.le_iff_toInt_le] at b1 b2
    have c1 : (1 : Int32).toInt = 1 := rfl
    have c2 : (2 : Int32).toInt = 2 := rfl
    rcases (show x.toInt = 1 ∨ x.toInt = 2 by omega) with e | e
    · exact Or.inl (Int32.toInt_inj.mp (e.trans c1.symm))
    · exact Or.inr (Int32.toInt_inj.mp (e.trans c2.symm))
  · rintro (rfl | rfl) <;> decide
theorem q_danger (R : RR kS tl bytes v now st ct bs ss sc kinds moons places values path home kin a was kept isKept text sight) (begun between : Nat → Int32) (p1 p2 : Int32) (p3 : Bool) :
    f_X8_danger v now p1 p2 p3 = (f_X9_danger (gVi_houses v) (gVi_people v) a begun home path kin between p1 p2 p3).1 ∧
    RR kS tl bytes v now st ct bs ss sc kinds moons places values path home kin (f_X9_danger (gVi_houses v) (gVi_people v) a begun home path kin between p1 p2 p3).2.2.1 was kept isKept text sight ∧
    (¬ f_X9_noOne (gVi_people v) p1 = true → f_X9_in p2.toInt64 1 2 = true → f_X9_part_L6_E fuelG ((f_X9_danger_L85 (gVi_houses v) (gVi_people v) a begun home path kin p1 p2 (tn (f_X9_waysNow (gVi_houses v) (gVi_people v) a home path)) 0 0 a between).1) (if tn p2 = 1 then (f_X9_danger_L39 (gVi_people v) 0 1) else ((f_X9_danger_L39 (gVi_people v) 0 1) * (f_X9_danger_L39 (gVi_people v) 0 1))) = true ∧
      ¬ (f_X9_part_L6 fuelG ((f_X9_danger_L85 (gVi_houses v) (gVi_people v) a begun home path kin p1 p2 (tn (f_X9_waysNow (gVi_houses v) (gVi_people v) a home path)) 0 0 a between).1) (if tn p2 = 1 then (f_X9_danger_L39 (gVi_people v) 0 1) else ((f_X9_danger_L39 (gVi_people v) 0 1) * (f_X9_danger_L39 (gVi_people v) 0 1)))).1 = 0) := by
  obtain ⟨W, N, A, K, S, T⟩ := R
  have hP := W.hP
  unfold f_X8_danger f_X9_danger
  rw [noOne_eq hP]
  by_cases c : f_X8_noPerson v p1 = true
  · rw [if_pos c, if_pos c]
    exact ⟨rfl, ⟨W, N, A, K, S, T⟩, fun z => absurd c z⟩
  · rw [if_neg c, if_neg c]
    obtain ⟨p, hp, rfl⟩ := np_ex hP c
    by_cases d : p2 = 1 ∨ p2 = 2
    · have d1 : ¬ p2 < 1 := by rcases d with rfl | rfl <;> decide
      have d2 : ¬ 2 < p2 := by rcases d with rfl | rfl <;> decide
      rw [if_neg d1, if_neg d2, if_pos ((in12 p2).mpr d)]
      obtain ⟨x, y, e1, e2, e3, e4, h0, hxy, h50⟩ := danger_sum W N.1 N.2 hp begun between d
      obtain ⟨k1, k2, k3⟩ := part_eq h0 hxy h50 p3
      rw [e1, e2, e3, e4]
      refine ⟨k1, ⟨W, N.congr fun i hi => ((copies_in _ _ hi).trans (copies_in _ _ hi)).symm, A, K, S, T⟩, fun _ _ => ⟨k2, k3⟩⟩
    · rw [if_neg (fun z => d ((in12 p2).mp z))]
      refine ⟨?_, ⟨W, N, A, K, S, T⟩, fun _ z => absurd ((in12 p2).mp z) d⟩
      by_cases d1 : p2 < 1
      · rw [if_pos d1]
      · rw [if_neg d1]
        by_cases d2 : 2 < p2
        · rw [if_pos d2]
        · have h := (inI p2 1 2).mpr ⟨d1, d2⟩
          exact absurd ((in12 p2).mp h) d
end DNQ
