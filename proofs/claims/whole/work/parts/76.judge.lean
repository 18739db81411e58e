/-! judge, years -/
theorem jq (R q k : Nat) (hk : k = 100 * q) : R % k / q = R / q % 100 := by
  subst hk
  rw [Nat.mul_comm 100 q]
  exact Nat.mod_mul_right_div_self R q 100
theorem told_eq (k : Nat) : ∀ (r m x : Nat), m ≤ k + r → x < 2147483648 → (f_X8_judge_L56 k r (nI x) m).1 = nI (x / 100 ^ (m - k)) := by
  intro r
  induction r with
  | zero => intro m x hm hx; rw [show m - k = 0 by omega]; simp only [f_X8_judge_L56]; rw [Nat.pow_zero, Nat.div_one]
  | succ r ih =>
    intro m x hm hx
    simp only [f_X8_judge_L56]
    by_cases c : m ≤ k
    · rw [if_pos c, show m - k = 0 by omega, Nat.pow_zero, Nat.div_one]
    · rw [if_neg c]
      rw [show (nI x / 100 : Int32) = nI (x / 100) from nI_div (d := 100) hx (by omega) (by omega)]
      rw [ih _ _ (by omega) (by have := Nat.div_le_self x 100; omega), show m - k = (m - 1 - k) + 1 by omega, Nat.pow_succ, Nat.mul_comm, Nat.div_div_eq_div_mul]
theorem goals_out {t n : TN} {v : TVi} {s : Int32} (hw : gN_wolves t = gN_wolves n) (hg : gN_gone t = gN_gone n) (hB : gN_bolted t = gN_bolted n) (hr : gN_barred t = gN_barred n) (ho : gN_out t = gN_out n ||| s) {p : Nat} (hp : p < 32) : f_X2_goals t v (nI p) = if hb s p = true then 0 else f_X2_goals n v (nI p) := by
  unfold f_X2_goals f_X2_reach f_X2_openHouses
  have e : ∀ o : Int32, f_X8_has ((gN_wolves n &&& (gN_gone n ^^^ (-1))) &&& (o ^^^ (-1))) (nI p) = (hb (gN_wolves n &&& (gN_gone n ^^^ (-1))) p && !hb o p) := fun o => by rw [has_hb hp, hb_and, hb_not, decide_eq_true hp, Bool.true_and]
  rw [hw, hg, hB, hr, ho, e, e, hb_or]
  cases hb s p <;> simp
theorem c100 : ∀ n, n < 5 → 1 ≤ n → (f_X9_judge_L10 (nI n) fuelC 1 0).1 = 100 ^ n ∧ f_X8_powerOf 100 n = (nI (100 ^ n)).toInt64 ∧ 100 ^ n ≤ 100000000 := by decide +kernel
section JG
variable {now : TN} {a : Nat → Int32} {v : TVi} {path home kin : Nat → Int32}
theorem judge_loop (W : VR v path home kin) (N : NR (gVi_people v) now a) {n R : Nat} (hn4 : n ≤ 4) (hR : R < 100000000) : ∀ (r k : Nat) (t : TN) (s : Int32), k + r = n → gN_wolves t = gN_wolves now → gN_gone t = gN_gone now → gN_bolted t = gN_bolted now → gN_barred t = gN_barred now → gN_out t = gN_out now ||| s →
    (f_X8_judge_L43 v (nI n) (nI R) r k t).1 = (f_X9_judge_L76 (gVi_houses v) (gVi_people v) a home path r k (100 ^ r) s (R % 100 ^ r)).1 := by
  have hP := W.hP
  have hH := W.hH
  intro r
  induction r with
  | zero => intro k t s _ _ _ _ _ _; rfl
  | succ r ih =>
    intro k t s hk h1 h2 h3 h4 h5
    simp only [f_X8_judge_L43, f_X9_judge_L76]
    rw [tn_nI (by omega), told_eq k fuelC (n - 1) R (by show n - 1 ≤ k + 8; omega) (by omega), show n - 1 - k = r by omega]
    have e100 : 100 ^ (r + 1) / 100 = 100 ^ r := by rw [Nat.pow_succ, Nat.mul_div_cancel _ (by omega)]
    rw [e100]
    have hd : R % 100 ^ (r + 1) / 100 ^ r = R / 100 ^ r % 100 := jq R _ _ (by rw [Nat.pow_succ, Nat.mul_comm])
    rw [hd]
    have hT : R / 100 ^ r < 100000000 := Nat.lt_of_le_of_lt (Nat.div_le_self _ _) hR
    have hmm : R % 100 ^ (r + 1) % 100 ^ r = R % 100 ^ r := Nat.mod_mod_of_dvd _ ⟨100, Nat.pow_succ _ _⟩
    rw [hmm]
    generalize hD : R / 100 ^ r = D at hT
    have e1 : (nI D / 10 - nI D / 10 / 10 * 10 : Int32) = nI (D % 100 / 10) := by
      rw [show (nI D / 10 : Int32) = nI (D / 10) from nI_div (d := 10) (by omega) (by omega) (by omega)]
      rw [show (nI (D / 10) - nI (D / 10) / 10 * 10 : Int32) = nI (D / 10 % 10) from nI_rem (d := 10) (by omega) (by omega) (by omega)]
      exact congrArg nI (by omega)
    have e2 : (nI D - nI D / 10 * 10 : Int32) = nI (D % 100 % 10) := by
      rw [show (nI D - nI D / 10 * 10 : Int32) = nI (D % 10) from nI_rem (d := 10) (by omega) (by omega) (by omega)]
      exact congrArg nI (by omega)
    rw [e1, e2, noOne_eq hP, noHouse_eq hH]
    by_cases c1 : f_X8_noPerson v (nI (D % 100 / 10)) = true
    · rw [if_pos c1, if_pos c1]
    · rw [if_neg c1, if_neg c1]
      obtain ⟨p, hp, ep⟩ := np_ex hP c1
      have ep2 : D % 100 / 10 = p := (nI_eq_ (by omega) (by omega)).mp ep
      rw [ep2]
      by_cases c2 : f_X8_noHouse v (nI (D % 100 % 10)) = true
      · rw [if_pos c2, if_pos c2]
      · rw [if_neg c2, if_neg c2]
        obtain ⟨h, hh, eh⟩ := nh_ex hH c2
        have eh2 : D % 100 % 10 = h := (nI_eq_ (by omega) (by omega)).mp eh
        rw [eh2, goals_eq N W (by omega), goals_out h1 h2 h3 h4 h5 (by omega), has9_hb (by omega), has9_hb (by omega), has_hb (by omega)]
        by_cases c3 : hb s p = true
        · rw [if_pos c3, if_pos c3, hb_zero, if_neg (by decide)]
        · rw [if_neg c3, if_neg c3]
          by_cases c4 : hb (f_X2_goals now v (nI p)) h = true
          · rw [if_pos c4, if_pos c4]
            refine ih (k + 1) _ _ (by omega) ?_ ?_ ?_ ?_ ?_
            · rw [wk_wolves]; exact h1
            · rw [wk_gone]; exact h2
            · rw [wk_bolted]; exact h3
            · rw [wk_barred]; exact h4
            · rw [wk_out, h5, Int32.or_assoc]; rfl
          · rw [if_neg c4, if_neg c4]
theorem judge_eq (W : VR v path home kin) (N : NR (gVi_people v) now a) (th : TN) (p1 p2 : Int32) : (f_X8_judge th now v p1 p2).1 = (f_X9_judge (gVi_houses v) (gVi_people v) a home path p1 p2).1 := by
  unfold f_X8_judge f_X9_judge
  have hin := inI p1 1 4
  rw [show (1 : Int32).toInt64 = 1 from rfl, show (4 : Int32).toInt64 = 4 from rfl] at hin
  by_cases c1 : p1 < 1
  · rw [if_pos c1, if_neg (fun z => (hin.mp z).1 c1)]
  · rw [if_neg c1]
    by_cases c2 : 4 < p1
    · rw [if_pos c2, if_neg (fun z => (hin.mp z).2 c2)]
    · rw [if_neg c2, if_pos (hin.mpr ⟨c1, c2⟩)]
      obtain ⟨e1, hn1, hn4⟩ := c18_e (n := 4) c1 c2 (by decide)
      generalize tn p1 = n at e1 hn1 hn4
      subst e1
      obtain ⟨f1, f2, f3⟩ := c100 n (by omega) hn1
      have f0 : 1 ≤ 100 ^ n := Nat.pos_of_ne_zero (by intro z; have := Nat.pow_eq_zero.mp z; omega)
      rw [f1, f2]
      have hin2 := inI p2 0 (nI (100 ^ n) - 1)
      rw [show (0 : Int32).toInt64 = 0 from rfl] at hin2
      by_cases c3 : p2 < 0
      · rw [if_pos c3, if_neg (fun z => (hin2.mp z).1 c3)]
      · rw [if_neg c3]
        obtain ⟨R, hR, rfl⟩ := nI_of c3
        have e9 : (nI (100 ^ n) - 1 : Int32) = nI (100 ^ n - 1) := pk_sub (b := 1) f0
        by_cases c4 : (nI R).toInt64 < (nI (100 ^ n)).toInt64
        · have hR2 : R < 100 ^ n := (nI_lt_ hR (by omega)).mp ((fa_wide_lt _ _).mp c4)
          rw [if_pos c4, if_pos (hin2.mpr ⟨c3, by rw [e9]; exact fun z => by have := (nI_lt_ (by omega) hR).mp z; omega⟩)]
          rw [tn_nI hR]
          have := judge_loop W N (n := n) (R := R) hn4 (by omega) n 0 (f_X2_copyFrom th now) 0 (by omega) rfl rfl rfl rfl (Int32.or_zero).symm
          rw [Nat.mod_eq_of_lt hR2] at this
          exact this
        · rw [if_neg c4, if_neg (fun z => c4 ((fa_wide_lt _ _).mpr ((nI_lt_ hR (by omega)).mpr ?_)))]
          have h2 := (hin2.mp z).2
          rw [e9] at h2
          have : ¬ 100 ^ n - 1 < R := fun y => h2 ((nI_lt_ (by omega) hR).mpr y)
          omega
theorem bits16 : ∀ m, m < 16 → f_J6_bitCount_0f7a4 (nI m) = f_X9_bits (nI m) := by decide +kernel
theorem place16 : ∀ m, m < 16 → ∀ k, k < tn (f_X9_bits (nI m)) → f_X9_placeOf (nI m) (nI k) = f_X8_bitNumbered (nI m) (nI k) ∧ f_X9_has (nI m) (f_X9_placeOf (nI m) (nI k)) = true := by decide +kernel
theorem bits0 : ∀ m, m < 16 → (f_X9_bits (nI m) = 0 ↔ nI m = 0) := by decide +kernel
theorem walkSeed (W : VR v path home kin) {t : TN} {y : Nat → Int32} (T : NN (gVi_houses v) (gVi_people v) t y) (sd : Int64) {p : Nat} (hp : p < gVi_people v) :
    (f_X8_walkBySeed sd t v (nI p)).1 = (if f_X9_mayOf (gVi_houses v) y home path p = 0 then sd else ((sd * 6364136223846793005) + 1442695040888963407)) ∧ NN (gVi_houses v) (gVi_people v) (f_X8_walkBySeed sd t v (nI p)).2 (f_X9_years_x1 (gVi_houses v) (gVi_people v) home path kin p sd y) := by
  have hP := W.hP
  have hS := mayOf_S (H := gVi_houses v) (p := p) (now := y) (home := home) (path := path) W.hH
  unfold f_X8_walkBySeed f_X9_years_x1
  rw [goals_eq T.1 W (by omega)] at hS ⊢
  generalize hg : f_X2_goals t v (nI p) = gl at hS ⊢
  obtain ⟨m, hm, rfl⟩ := hS
  rw [bits16 m hm]
  by_cases c : nI m = 0
  · rw [if_pos ((bits0 m hm).mpr c), if_pos c, if_pos c]; exact ⟨rfl, T⟩
  · rw [if_neg (fun z => c ((bits0 m hm).mp z)), if_neg c, if_neg c]
    refine ⟨rfl, ?_⟩
    have hy := yr_e (x := nI m) ⟨m, hm, rfl⟩ c ((sd * 6364136223846793005) + 1442695040888963407)
    dsimp only
    generalize ((lushr ((sd * 6364136223846793005) + 1442695040888963407) 33) - (lushr ((sd * 6364136223846793005) + 1442695040888963407) 33) / (f_X9_bits (nI m)).toInt64 * (f_X9_bits (nI m)).toInt64).toInt32 = z at hy ⊢
    obtain ⟨h1, h2⟩ := hy
    rw [h1, tn_nI (by have := bits_S (x := nI m) ⟨m, hm, rfl⟩; omega)]
    obtain ⟨f1, f2⟩ := place16 m hm (tn z) h2
    have hs := placeOf_S (x := nI m) (q := tn z) ⟨m, hm, rfl⟩ h2
    rw [← f1]
    rw [hs.1] at f2 ⊢
    rw [tn_nI (by omega)]
    have hg2 : hb (f_X2_goals t v (nI p)) (tn (f_X9_placeOf (nI m) (nI (tn z)))) = true := by
      rw [hg]
      rw [has9_hb (by omega)] at f2
      exact f2
    exact ⟨walk_NR T.1 T.2 W hp hg2, walk_NI T.2 W hp hg2⟩
theorem years_L40 (W : VR v path home kin) : ∀ (r k : Nat) (sd : Int64) (t : TN) (y : Nat → Int32), k + r = gVi_people v → NN (gVi_houses v) (gVi_people v) t y →
    (f_X8_years_L34 v r k sd t).1 = (f_X9_years_L40 (gVi_houses v) (gVi_people v) home path kin r k sd y).1 ∧ NN (gVi_houses v) (gVi_people v) (f_X8_years_L34 v r k sd t).2 (f_X9_years_L40 (gVi_houses v) (gVi_people v) home path kin r k sd y).2 := by
  intro r
  induction r with
  | zero => intro k sd t y _ T; exact ⟨rfl, T⟩
  | succ r ih =>
    intro k sd t y hk T
    obtain ⟨h1, h2⟩ := walkSeed W T sd (p := k) (by omega)
    simp only [f_X8_years_L34, f_X9_years_L40]
    rw [h1]
    exact ih _ _ _ _ (by omega) h2
theorem years_L33 (W : VR v path home kin) : ∀ (r k : Nat) (sd : Int64) (t : TN) (y : Nat → Int32), NN (gVi_houses v) (gVi_people v) t y →
    (f_X8_years_L27 v r k sd t).1 = (f_X9_years_L33 (gVi_houses v) (gVi_people v) home path kin r k sd y).1 ∧ NN (gVi_houses v) (gVi_people v) (f_X8_years_L27 v r k sd t).2 (f_X9_years_L33 (gVi_houses v) (gVi_people v) home path kin r k sd y).2 := by
  intro r
  induction r with
  | zero => intro k sd t y T; exact ⟨rfl, T⟩
  | succ r ih =>
    intro k sd t y T
    obtain ⟨h1, h2⟩ := years_L40 W (gVi_people v) 0 sd t y (by omega) T
    simp only [f_X8_years_L27, f_X9_years_L33]
    rw [h1]
    exact ih _ _ _ _ ⟨dawn_NR h2.1 h2.2 W.hP, dawn_NI h2.2⟩
theorem copies_at (src : Nat → Int32) : ∀ (r k : Nat) (y : Nat → Int32) (i : Nat), f_X9_copies_L2 src r k y i = if k ≤ i ∧ i < k + r then src i else y i := by
  intro r
  induction r with
  | zero => intro k y i; rw [if_neg (by omega)]; rfl
  | succ r ih =>
    intro k y i
    simp only [f_X9_copies_L2]
    rw [ih, upd_at]
    by_cases e : i = k
    · subst e; rw [if_neg (by omega), if_pos rfl, if_pos (by omega)]
    · rw [if_neg e]
      by_cases h : k ≤ i ∧ i < k + (r + 1)
      · rw [if_pos h, if_pos (by omega)]
      · rw [if_neg h, if_neg (by omega)]
theorem copies_in (src y : Nat → Int32) {i : Nat} (hi : i < 43) : f_X9_copies src y i = src i := by
  unfold f_X9_copies
  rw [copies_at, if_pos (by omega)]
theorem years_eq (W : VR v path home kin) (T : NN (gVi_houses v) (gVi_people v) now a) (th : TN) (sd : Int64) (bg : Nat → Int32) (p1 : Int32) :
    (f_X8_years sd th now v p1).1 = (f_X9_years (gVi_houses v) (gVi_people v) sd a bg home path kin p1).1 ∧ (f_X8_years sd th now v p1).2.1 = (f_X9_years (gVi_houses v) (gVi_people v) sd a bg home path kin p1).2.2.1 ∧ NN (gVi_houses v) (gVi_people v) now (f_X9_years (gVi_houses v) (gVi_people v) sd a bg home path kin p1).2.2.2.1 := by
  unfold f_X8_years f_X9_years
  have hin := inI p1 1 30
  rw [show (1 : Int32).toInt64 = 1 from rfl, show (30 : Int32).toInt64 = 30 from rfl] at hin
  by_cases c1 : p1 < 1
  · rw [if_pos c1, if_neg (fun z => (hin.mp z).1 c1)]; exact ⟨rfl, rfl, T⟩
  · rw [if_neg c1]
    by_cases c2 : p1 ≤ 30
    · rw [if_pos c2, if_pos (hin.mpr ⟨c1, Int32.not_lt.mpr c2⟩), cpF]
      obtain ⟨h1, h2⟩ := years_L33 W (tn p1) 0 sd now a T
      refine ⟨?_, h1, T.congr fun i hi => ?_⟩
      · exact (wolves_eq h2.1 W.hP).symm
      · dsimp only
        rw [copies_in _ _ hi, copies_in _ _ hi]
    · rw [if_neg c2, if_neg (fun z => (hin.mp z).2 (Int32.not_le.mp c2))]; exact ⟨rfl, rfl, T⟩
end JG
section CALLS3
variable {kS : Int32} {tl : Nat} {bytes : Nat → Int32} {v : TVi} {now : TN} {st ct : Nat} {bs ss : Nat → TN} {sc : Nat} {kinds moons places values : Nat → Int32} {path home kin a was kept isKept text sight : Nat → Int32}
theorem q_judge (R : RR kS tl bytes v now st ct bs ss sc kinds moons places values path home kin a was kept isKept text sight) (th : TN) (p1 p2 : Int32) : (f_X8_judge th now v p1 p2).1 = (f_X9_judge (gVi_houses v) (gVi_people v) a home path p1 p2).1 := judge_eq R.1 R.2.1.1 th p1 p2
theorem q_years (R : RR kS tl bytes v now st ct bs ss sc kinds moons places values path home kin a was kept isKept text sight) (th : TN) (sd : Int64) (bg : Nat → Int32) (p1 : Int32) :
    (f_X8_years sd th now v p1).1 = (f_X9_years (gVi_houses v) (gVi_people v) sd a bg home path kin p1).1 ∧ (f_X8_years sd th now v p1).2.1 = (f_X9_years (gVi_houses v) (gVi_people v) sd a bg home path kin p1).2.2.1 ∧ RR kS tl bytes v now st ct bs ss sc kinds moons places values path home kin (f_X9_years (gVi_houses v) (gVi_people v) sd a bg home path kin p1).2.2.2.1 was kept isKept text sight := by
  obtain ⟨W, N, A, K, S, T⟩ := R
  obtain ⟨h1, h2, h3⟩ := years_eq W N th sd bg p1
  exact ⟨h1, h2, W, h3, A, K, S, T⟩
end CALLS3
