theorem mx_nI {a b : Nat} (ha : a ≤ 64) (hb : b ≤ 64) : (if nI a ≤ nI b then nI b else nI a) = (if nI a < nI b then nI b else nI a) ∧ ∃ z, z ≤ 64 ∧ (if nI a ≤ nI b then nI b else nI a) = nI z := by
  by_cases c : a ≤ b
  · rw [if_pos ((nI_le_ (by omega) (by omega)).mpr c)]
    refine ⟨?_, b, hb, rfl⟩
    by_cases d : a < b
    · rw [if_pos ((nI_lt_ (by omega) (by omega)).mpr d)]
    · rw [if_neg (fun z => d ((nI_lt_ (by omega) (by omega)).mp z)), show a = b by omega]
  · rw [if_neg (fun z => c ((nI_le_ (by omega) (by omega)).mp z)), if_neg (fun z => by have := (nI_lt_ (by omega) (by omega)).mp z; omega)]
    exact ⟨rfl, a, ha, rfl⟩
section CALLS4
variable {kS : Int32} {tl : Nat} {bytes : Nat → Int32} {v : TVi} {now : TN} {st ct : Nat} {bs ss : Nat → TN} {sc : Nat} {kinds moons places values : Nat → Int32} {path home kin a was kept isKept text sight : Nat → Int32}
theorem tell_eq (aw : Int32) (u s : Int64) (v : TVi) (now : TN) (sc : Nat) (fits : Nat → Int64) (kinds moons places values : Nat → Int32) : (f_X8_tellTales aw u s v now sc fits kinds moons places values).2.2.2.2 = (f_X5_tell aw u s v now sc fits kinds moons places values).2.2.2.2 := by simp only [f_X8_tellTales]
theorem tctx (R : RR kS tl bytes v now st ct bs ss sc kinds moons places values path home kin a was kept isKept text sight) (aw : Int32) (u s : Int64) (fits tales : Nat → Int64) (went : Nat → Int32) :
    ∃ x : Nat → Nat, (∀ i, i < 64 → x i ≤ 68719476736 ∧ (f_X8_tellTales aw u s v now sc fits kinds moons places values).2.2.2.2 i = lN (x i)) ∧ (∀ i, i < 64 → (f_X8_tellTales aw u s v now sc fits kinds moons places values).2.2.2.2 i = (f_X9_layTales (gVi_houses v) (gVi_people v) sc a tales sight went path home).1 i) ∧ ∀ i, i < 64 → 0 < x i → ∀ p, p < 32 → hb (nI i) p = true → hb (f_X2_there now v) p = true := by
  obtain ⟨W, ⟨N, I⟩, A, K, S, T⟩ := R
  obtain ⟨x, hx⟩ := tales_eq W N S aw u s fits tales went
  rw [tell_eq]
  exact ⟨x, fun i hi => ⟨(hx i hi).1, (hx i hi).2.1⟩, fun i hi => (hx i hi).2.1.trans (hx i hi).2.2.1.symm, fun i hi h0 p hp hh => sub_bit ((hx i hi).2.2.2 h0) hp hh⟩
theorem q_hendW (R : RR kS tl bytes v now st ct bs ss sc kinds moons places values path home kin a was kept isKept text sight) : ∀ (set moon : Int32) (w : Nat → Int32), f_X9_waysOf_L26_E (gVi_houses v) (gVi_people v) sc sight path home a set moon fuelW 0 true (f_X9_waysOf_L2 6 0 w) = true := fun set moon w =>
  (ways_end (sc := sc) (sight := sight) R.1 R.2.1.1 set moon w).elim fun C h => h.2.2.2
theorem q_tales (R : RR kS tl bytes v now st ct bs ss sc kinds moons places values path home kin a was kept isKept text sight) (aw : Int32) (u s : Int64) (fits tales : Nat → Int64) (went : Nat → Int32) : (f_X8_tales aw u s v now sc fits kinds moons places values).1 = (f_X9_tales (gVi_houses v) (gVi_people v) sc a tales sight went path home).1 := by
  obtain ⟨x, hF, hFG, hs⟩ := tctx R aw u s fits tales went
  show f_X5_all _ = f_X9_tales_L13 _ _ _ _ _ _ _ _ _ 64 0 0
  exact all_eq hFG (fun r k l => f_X9_tales_L13 (gVi_houses v) (gVi_people v) sc a tales sight went path home r k l) (fun k l => rfl) (fun r k l => rfl)
theorem q_sets (R : RR kS tl bytes v now st ct bs ss sc kinds moons places values path home kin a was kept isKept text sight) (aw : Int32) (u s : Int64) (fits tales : Nat → Int64) (went : Nat → Int32) : (f_X8_sets aw u s v now sc fits kinds moons places values).1 = (f_X9_sets (gVi_houses v) (gVi_people v) sc a tales sight went path home).1 := by
  obtain ⟨x, hF, hFG, hs⟩ := tctx R aw u s fits tales went
  exact (setsAll_eq hFG).symm
theorem q_setAt (R : RR kS tl bytes v now st ct bs ss sc kinds moons places values path home kin a was kept isKept text sight) (aw : Int32) (u s : Int64) (fits tales : Nat → Int64) (went : Nat → Int32) (p1 : Int32) : (f_X8_setAt aw u s v now sc fits kinds moons places values p1).1 = (f_X9_setAt (gVi_houses v) (gVi_people v) sc a tales sight went path home p1).1 := by
  obtain ⟨x, hF, hFG, hs⟩ := tctx R aw u s fits tales went
  unfold f_X8_setAt f_X9_setAt
  dsimp only
  refine setAt_eq hFG p1 (fun r k l => (f_X9_setAt_L13 (gVi_houses v) (gVi_people v) sc a tales sight went path home p1 r k l).1) (fun k l => rfl) (fun r k l => ?_)
  simp only [f_X9_setAt_L13]
  (repeat' split) <;> rfl
theorem q_setAt2 (H P sc : Nat) (a : Nat → Int32) (tales : Nat → Int64) (sight went path home : Nat → Int32) (p1 : Int32) : (f_X9_setAt H P sc a tales sight went path home p1).2.1 = 0 ∧ (f_X9_setAt H P sc a tales sight went path home p1).2.2.1 = (f_X9_layTales H P sc a tales sight went path home).1 ∧ (f_X9_setAt H P sc a tales sight went path home p1).2.2.2 = (f_X9_layTales H P sc a tales sight went path home).2 := by
  have e : ∀ r k l, (f_X9_setAt_L13 H P sc a tales sight went path home p1 r k l).2.1 = 0 ∧ (f_X9_setAt_L13 H P sc a tales sight went path home p1 r k l).2.2.1 = (f_X9_layTales H P sc a tales sight went path home).1 ∧ (f_X9_setAt_L13 H P sc a tales sight went path home p1 r k l).2.2.2 = (f_X9_layTales H P sc a tales sight went path home).2 := by
    intro r
    induction r with
    | zero => intro k l; exact ⟨rfl, rfl, rfl⟩
    | succ r ih =>
      intro k l
      simp only [f_X9_setAt_L13]
      split
      · split
        · exact ⟨rfl, rfl, rfl⟩
        · exact ih _ _
      · exact ih _ _
  exact e 64 0 0
theorem q_sure (R : RR kS tl bytes v now st ct bs ss sc kinds moons places values path home kin a was kept isKept text sight) (tp : Nat) (aw : Int32) (u s : Int64) (fits tales : Nat → Int64) (went : Nat → Int32) (p1 : Int32) : (f_X8_sure tp aw u s v now sc fits kinds moons places values p1).1 = (f_X9_sure (gVi_houses v) (gVi_people v) sc a tales sight went path home p1).1 := by
  obtain ⟨x, hF, hFG, hs⟩ := tctx R aw u s fits tales went
  obtain ⟨W, ⟨N, I⟩, A, K, S, T⟩ := R
  have hP := W.hP
  have hin := inI p1 0 2
  rw [show (0 : Int32).toInt64 = 0 from rfl, show (2 : Int32).toInt64 = 2 from rfl] at hin
  unfold f_X8_sure f_X9_sure
  by_cases c1 : p1 < 0
  · rw [if_pos c1, if_neg (fun z => (hin.mp z).1 c1)]
  · rw [if_neg c1]
    by_cases c2 : p1 ≤ 2
    · rw [if_pos c2, if_pos (hin.mpr ⟨c1, Int32.not_lt.mpr c2⟩), setsAll_eq hFG]
      have hcount := setCount_cnt hF
      have hle := cntR_le (psC x) 64 0
      by_cases c3 : f_X5_setCount (f_X8_tellTales aw u s v now sc fits kinds moons places values).2.2.2.2 = 0
      · rw [if_pos c3, if_pos c3]
      · rw [if_neg c3, if_neg c3]
        obtain ⟨j, hj, rfl⟩ := nI_of c1
        have hj2 : j ≤ 2 := (nI_le_ hj (by omega)).mp c2
        unfold f_X9_sure_x2 f_X8_sure_x1
        rw [tn_nI hj]
        have hsus := suspects_eq hF hFG hP (fun i hi h0 p hp hh => ((there_hb now v hP p).mp (hs i hi h0 p hp hh)).1)
        have hj3 : j = 0 ∨ j = 1 ∨ j = 2 := by omega
        rcases hj3 with rfl | rfl | rfl
        · rw [if_pos (show (nI 0 : Int32) = 0 from rfl), if_pos rfl]
          dsimp only
          have acc : ∀ (r k : Nat) (z : Int32), f_X9_sure_L43 (gVi_houses v) (gVi_people v) sc a tales sight went path home r k z = accP (fun i => decide (f_X9_setsWith (f_X9_layTales (gVi_houses v) (gVi_people v) sc a tales sight went path home).1 (nI i) = f_X9_setsWith (f_X9_layTales (gVi_houses v) (gVi_people v) sc a tales sight went path home).1 (-9))) r k z := by
            intro r
            induction r with
            | zero => intro k z; rfl
            | succ r ih => intro k z; simp only [f_X9_sure_L43, accP, decide_eq_true_eq]; rw [ih]; unfold f_X9_sure_x1; rw [or_if]; rfl
          refine hb_iff fun p hp => ?_
          rw [acc, accP_0 (by omega)]
          show hb (f_X5_inAll (gVi_people v) _) p = true ↔ _
          rw [sureC hF _ hP, decide_eq_true_eq, setsWith9_eq hFG hp, setsAll_eq hFG, setsWith_cnt hF hp, hcount]
          refine and_congr_right fun hpP => ?_
          have hl2 := cntR_le (pwC x p) 64 0
          rw [nI_eq_ (by omega) (by omega)]
          have hsub := cntR_sub (c := pwC x p) (d := psC x) (fun k hk => by unfold pwC at hk; unfold psC; rw [Bool.and_eq_true] at hk; exact hk.1) 64 0
          rw [hsub.2]
          exact ⟨fun h i _ hi hd => h i (by omega) hd, fun h k hk hd => h k (by omega) (by omega) hd⟩
        · rw [if_neg (show ¬ (nI 1 : Int32) = 0 by decide), if_neg (show ¬ 1 = 0 by omega), if_pos (show (nI 1 : Int32) = 1 from rfl), if_pos (rfl : 1 = 1), hsus, there_eq N hP]
        · rw [if_neg (show ¬ (nI 2 : Int32) = 0 by decide), if_neg (show ¬ 2 = 0 by omega), if_neg (show ¬ (nI 2 : Int32) = 1 by decide), if_neg (show ¬ 2 = 1 by omega), hsus]
    · rw [if_neg c2, if_neg (fun z => (hin.mp z).2 (Int32.not_le.mp c2))]
theorem likely_sum (H P sc : Nat) (a : Nat → Int32) (tales : Nat → Int64) (sight went path home : Nat → Int32) (F : Nat → Int64) (hFG : ∀ i, i < 64 → F i = (f_X9_layTales H P sc a tales sight went path home).1 i) {j : Nat} (hj : j < 6) : f_X9_likely_L29 H P sc a tales sight went path home (nI j) 64 0 0 0 = (f_X5_all F, f_X5_allWith F (nI j)) := by
  have e : ∀ (r k : Nat) (y z : Int64), k + r ≤ 64 → f_X9_likely_L29 H P sc a tales sight went path home (nI j) r k y z = (f_X5_all_L4 F r k y, f_X5_allWith_L5 F (nI j) r k z) := by
    intro r
    induction r with
    | zero => intro k y z _; rfl
    | succ r ih =>
      intro k y z h
      simp only [f_X9_likely_L29, f_X5_all_L4, f_X5_allWith_L5]
      rw [ih _ _ _ (by omega), tn_nI (by omega), hFG k (by omega)]
      rfl
  exact e 64 0 0 0 (by omega)
theorem q_likely (R : RR kS tl bytes v now st ct bs ss sc kinds moons places values path home kin a was kept isKept text sight) (tp : Nat) (aw : Int32) (u s : Int64) (fits tales : Nat → Int64) (went : Nat → Int32) (p1 : Int32) (up : Bool) : (f_X8_likely v tp aw u s now sc fits kinds moons places values p1 up).1 = (f_X9_likely (gVi_houses v) (gVi_people v) sc a tales sight went path home p1 up).1 ∧
    (¬ f_X9_noOne (gVi_people v) p1 = true → ¬ (f_X9_likely_L29 (gVi_houses v) (gVi_people v) sc a tales sight went path home p1 64 0 0 0).1 = 0 → f_X9_part_L6_E fuelG (f_X9_likely_L29 (gVi_houses v) (gVi_people v) sc a tales sight went path home p1 64 0 0 0).2 (f_X9_likely_L29 (gVi_houses v) (gVi_people v) sc a tales sight went path home p1 64 0 0 0).1 = true ∧ ¬ (f_X9_part_L6 fuelG (f_X9_likely_L29 (gVi_houses v) (gVi_people v) sc a tales sight went path home p1 64 0 0 0).2 (f_X9_likely_L29 (gVi_houses v) (gVi_people v) sc a tales sight went path home p1 64 0 0 0).1).1 = 0) := by
  obtain ⟨x, hF, hFG, hs⟩ := tctx R aw u s fits tales went
  obtain ⟨W, ⟨N, I⟩, A, K, S, T⟩ := R
  have hP := W.hP
  rw [noOne_eq hP]
  unfold f_X8_likely f_X9_likely
  rw [noOne_eq hP]
  by_cases c : f_X8_noPerson v p1 = true
  · rw [if_pos c, if_pos c]; exact ⟨rfl, fun z => absurd c z⟩
  · rw [if_neg c, if_neg c]
    obtain ⟨j, hj, rfl⟩ := np_ex hP c
    obtain ⟨m, hm, e1, e2⟩ := sumAll hF
    obtain ⟨t, ht, e3⟩ := e2 j (by omega)
    have hl := likely_sum (gVi_houses v) (gVi_people v) sc a tales sight went path home _ hFG (j := j) (by omega)
    dsimp only
    unfold f_X8_likely_x1 f_X9_likely_x1
    rw [hl]
    dsimp only
    rw [e1, e3]
    have h0 : lN m = 0 ↔ m = 0 := pk_lEQ (b := 0) (by omega) (by omega)
    by_cases c2 : m = 0
    · rw [if_pos (h0.mpr c2), if_pos (h0.mpr c2)]; exact ⟨rfl, fun _ z => absurd (h0.mpr c2) z⟩
    · obtain ⟨p1, p2, p3⟩ := part_eq (a := t) (b := m) (by omega) ht (by omega) up
      rw [if_neg (fun z => c2 (h0.mp z)), if_neg (fun z => c2 (h0.mp z))]
      exact ⟨p1, fun _ _ => ⟨p2, p3⟩⟩
theorem q_toTest (R : RR kS tl bytes v now st ct bs ss sc kinds moons places values path home kin a was kept isKept text sight) (aw : Int32) (u s : Int64) (fits tales : Nat → Int64) (went : Nat → Int32) : (f_X8_toTest aw u s v now sc fits kinds moons places values).1 = (f_X9_toTest (gVi_houses v) (gVi_people v) sc a tales sight went path home).1 := by
  obtain ⟨x, hF, hFG, hs⟩ := tctx R aw u s fits tales went
  obtain ⟨W, ⟨N, I⟩, A, K, S, T⟩ := R
  have hP := W.hP
  unfold f_X8_toTest f_X9_toTest
  dsimp only
  unfold f_X8_toTest_x1
  have hcount := setCount_cnt hF
  have hle := cntR_le (psC x) 64 0
  by_cases c3 : f_X5_setCount (f_X8_tellTales aw u s v now sc fits kinds moons places values).2.2.2.2 = 0
  · rw [if_pos c3]
    cases hq : gVi_people v with
    | zero => rfl
    | succ q =>
      simp only [f_X9_toTest_L24]
      rw [if_pos (by rw [← hq, setsAll_eq hFG, c3]; decide)]
  · rw [if_neg c3]
    have hpos : ¬ f_X9_setsWith (f_X9_layTales (gVi_houses v) (gVi_people v) sc a tales sight went path home).1 (-9) ≤ 0 := by
      rw [setsAll_eq hFG, hcount, show (0 : Int32) = nI 0 from rfl, nI_le_ (by omega) (by omega)]
      intro z
      rw [show cntR (psC x) 64 0 = 0 by omega] at hcount
      exact c3 hcount
    have hx1 : ∀ k, k < 32 → f_X9_toTest_x1 (gVi_houses v) (gVi_people v) sc a tales sight went path home k = (if f_X5_setsWith (f_X8_tellTales aw u s v now sc fits kinds moons places values).2.2.2.2 (nI k) < (f_X5_setCount (f_X8_tellTales aw u s v now sc fits kinds moons places values).2.2.2.2 - f_X5_setsWith (f_X8_tellTales aw u s v now sc fits kinds moons places values).2.2.2.2 (nI k)) then (f_X5_setCount (f_X8_tellTales aw u s v now sc fits kinds moons places values).2.2.2.2 - f_X5_setsWith (f_X8_tellTales aw u s v now sc fits kinds moons places values).2.2.2.2 (nI k)) else f_X5_setsWith (f_X8_tellTales aw u s v now sc fits kinds moons places values).2.2.2.2 (nI k)) ∧ ∃ z, z ≤ 64 ∧ f_X9_toTest_x1 (gVi_houses v) (gVi_people v) sc a tales sight went path home k = nI z := by
      intro k hk
      unfold f_X9_toTest_x1
      rw [setsWith9_eq hFG hk, setsAll_eq hFG, setsWith_cnt hF hk, hcount]
      have hsub := (cntR_sub (c := pwC x k) (d := psC x) (fun i hi => by unfold pwC at hi; unfold psC; rw [Bool.and_eq_true] at hi; exact hi.1) 64 0).1
      rw [show (nI (cntR (psC x) 64 0) - nI (cntR (pwC x k) 64 0) : Int32) = nI (cntR (psC x) 64 0 - cntR (pwC x k) 64 0) from pk_sub hsub]
      exact mx_nI (by omega) (by omega)
    have e : ∀ (r k : Nat) (c m l : Int32), k + r = gVi_people v → ((c = -9 ∧ m = 65) ∨ (¬ c = -9 ∧ m = l)) → (f_X5_bestSpoon_L15 (f_X8_tellTales aw u s v now sc fits kinds moons places values).2.2.2.2 (f_X2_there now v) r k c m).1 = (f_X9_toTest_L24 (gVi_houses v) (gVi_people v) sc a tales sight went path home r k c l).1 := by
      intro r
      induction r with
      | zero => intro k c m l _ _; rfl
      | succ r ih =>
        intro k c m l hk hi
        obtain ⟨h1, z, hz, h2⟩ := hx1 k (by omega)
        simp only [f_X5_bestSpoon_L15, f_X9_toTest_L24]
        rw [if_neg hpos]
        unfold f_X5_bestSpoon_x1 f_X9_toTest_x2
        rw [← h1, h2]
        have ht : f_X8_has (f_X2_there now v) (nI k) = f_X9_isThere a k := by
          rw [has_hb (by omega), N.isThere (by omega)]
          have h := there_hb now v hP k
          cases c : hb (gN_gone now) k with
          | true => exact Bool.eq_false_iff.mpr fun z => by rw [(h.mp z).2] at c; cases c
          | false => exact h.mpr ⟨by omega, c⟩
        rw [ht]
        by_cases ct : f_X9_isThere a k = true
        · simp only [if_pos ct]
          rcases hi with ⟨h3, h4⟩ | ⟨h3, h4⟩
          · subst h3; subst h4
            rw [if_pos rfl, if_pos rfl, if_neg (show ¬ (65 : Int32) ≤ nI z from fun y => by have := (nI_le_ (a := 65) (b := z) (by omega) (by omega)).mp y; omega), if_neg (show ¬ (65 : Int32) ≤ nI z from fun y => by have := (nI_le_ (a := 65) (b := z) (by omega) (by omega)).mp y; omega)]
            exact ih _ _ _ _ (by omega) (Or.inr ⟨nI9 (by omega), rfl⟩)
          · subst h4
            rw [if_neg h3, if_neg h3]
            by_cases c5 : m ≤ nI z
            · rw [if_pos c5, if_pos c5]; exact ih _ _ _ _ (by omega) (Or.inr ⟨h3, rfl⟩)
            · rw [if_neg c5, if_neg c5]; exact ih _ _ _ _ (by omega) (Or.inr ⟨nI9 (by omega), rfl⟩)
        · simp only [if_neg ct]
          exact ih _ _ _ _ (by omega) hi
    unfold f_X5_bestSpoon
    exact e (gVi_people v) 0 (-9) 65 0 (by omega) (Or.inl ⟨rfl, rfl⟩)
theorem q_vote (R : RR kS tl bytes v now st ct bs ss sc kinds moons places values path home kin a was kept isKept text sight) (tp : Nat) (aw : Int32) (u s : Int64) (fits tales : Nat → Int64) (went : Nat → Int32) (p1 : Int32) : (f_X8_vote v now tp aw u s sc fits kinds moons places values p1).1 = (f_X9_vote (gVi_houses v) (gVi_people v) sc a tales sight went path home p1).1 := by
  obtain ⟨x, hF, hFG, hs⟩ := tctx R aw u s fits tales went
  obtain ⟨W, ⟨N, I⟩, A, K, S, T⟩ := R
  have hP := W.hP
  unfold f_X8_vote f_X9_vote
  rw [noOne_eq hP]
  by_cases c : f_X8_noPerson v p1 = true
  · rw [if_pos c, if_pos c]
  · rw [if_neg c, if_neg c]
    obtain ⟨j, hj, rfl⟩ := np_ex hP c
    rw [tn_nI (by omega), N.isThere (by omega), has_hb (by omega)]
    by_cases c3 : hb (gN_gone now) j = true
    · rw [if_pos c3, if_neg (by rw [c3]; decide)]
    · rw [if_neg c3, if_pos (by rw [Bool.eq_false_iff.mpr c3]; rfl)]
      exact (choice_eq W N hF hFG hj).1
theorem q_hanged (R : RR kS tl bytes v now st ct bs ss sc kinds moons places values path home kin a was kept isKept text sight) (aw : Int32) (u s : Int64) (fits tales : Nat → Int64) (went votes : Nat → Int32) : (f_X8_hanged aw u s v now sc fits kinds moons places values).1 = (f_X9_hanged (gVi_houses v) (gVi_people v) sc a tales sight went path home votes).1 := by
  obtain ⟨x, hF, hFG, hs⟩ := tctx R aw u s fits tales went
  obtain ⟨W, ⟨N, I⟩, A, K, S, T⟩ := R
  have hP := W.hP
  have hl0 : ∀ (r k : Nat) (y : Nat → Int32) (i : Nat), f_X9_hanged_L11 r k y i = if k ≤ i ∧ i < k + r then 0 else y i := by
    intro r
    induction r with
    | zero => intro k y i; rw [if_neg (by omega)]; rfl
    | succ r ih =>
      intro k y i
      simp only [f_X9_hanged_L11]
      rw [ih, upd_at]
      by_cases e : i = k
      · subst e; rw [if_neg (by omega), if_pos rfl, if_pos (by omega)]
      · rw [if_neg e]
        by_cases h : k ≤ i ∧ i < k + (r + 1)
        · rw [if_pos h, if_pos (by omega)]
        · rw [if_neg h, if_neg (by omega)]
  have hv : ∀ (r k : Nat) (row : Int64) (y : Nat → Int32), k + r = gVi_people v → (∀ i, i < 6 → y i = nI (cn row i) ∧ cn row i ≤ k) → ∀ i, i < 6 → (f_X9_hanged_L32 (gVi_houses v) (gVi_people v) sc a tales sight went path home r k y) i = nI (cn (f_X8_hanged_L8 aw u s v now sc fits kinds moons places values r k row) i) ∧ cn (f_X8_hanged_L8 aw u s v now sc fits kinds moons places values r k row) i ≤ 6 := by
    intro r
    induction r with
    | zero => intro k row y hk hi i h6; exact ⟨(hi i h6).1, by have := (hi i h6).2; show cn row i ≤ 6; omega⟩
    | succ r ih =>
      intro k row y hk hi
      simp only [f_X9_hanged_L32, f_X8_hanged_L8]
      refine ih _ _ _ (by omega) ?_
      unfold f_X9_hanged_x1 f_X8_hanged_x1
      obtain ⟨q1, q2⟩ := choice_eq (F := (f_X8_tellTales aw u s v now sc fits kinds moons places values).2.2.2.2) W N hF hFG (p := k) (by omega)
      rw [N.isThere (by omega), has_hb (by omega), ← q1]
      have ew : (if (!hb (gN_gone now) k) = true then f_X8_choiceOf now v (f_X8_tellTales aw u s v now sc fits kinds moons places values).2.2.2.2 (nI k) else -9) = (if hb (gN_gone now) k = true then -9 else f_X8_choiceOf now v (f_X8_tellTales aw u s v now sc fits kinds moons places values).2.2.2.2 (nI k)) := by cases hb (gN_gone now) k <;> rfl
      rw [ew]
      have q3 : (if hb (gN_gone now) k = true then (-9 : Int32) else f_X8_choiceOf now v (f_X8_tellTales aw u s v now sc fits kinds moons places values).2.2.2.2 (nI k)) = -9 ∨ ∃ j, j < gVi_people v ∧ (if hb (gN_gone now) k = true then (-9 : Int32) else f_X8_choiceOf now v (f_X8_tellTales aw u s v now sc fits kinds moons places values).2.2.2.2 (nI k)) = nI j := by
        by_cases c : hb (gN_gone now) k = true
        · exact Or.inl (if_pos c)
        · rw [if_neg c]; exact q2
      generalize (if hb (gN_gone now) k = true then (-9 : Int32) else f_X8_choiceOf now v (f_X8_tellTales aw u s v now sc fits kinds moons places values).2.2.2.2 (nI k)) = ch at q3 ⊢
      rcases q3 with q3 | ⟨j, hj, q3⟩
      · rw [if_pos q3, if_pos q3]
        exact fun i h6 => ⟨(hi i h6).1, by have := (hi i h6).2; omega⟩
      · subst q3
        rw [if_neg (nI9 (by omega)), if_neg (nI9 (by omega)), tn_nI (by omega), cell_cn]
        intro i h6
        have hb_ := hi j (by omega)
        rw [nI_add1, cn_wc (by omega) (by omega) (by omega), upd_at]
        by_cases e : i = j
        · subst e
          rw [if_pos rfl, if_pos rfl, hb_.1, nI_add1]
          exact ⟨rfl, by omega⟩
        · rw [if_neg e, if_neg (fun z => e z.symm)]
          exact ⟨(hi i h6).1, by have := (hi i h6).2; omega⟩
  have hv := hv (gVi_people v) 0 0 (f_X9_hanged_L11 6 0 votes) (by omega) (fun i h6 => by rw [hl0, if_pos (by omega), cn_zero i (by omega)]; exact ⟨rfl, Nat.le_refl _⟩)
  show (f_X8_hanged_L82 aw u s v now sc fits kinds moons places values (gVi_people v) 0 (-9) 0).1 = f_X9_hanged_L86 (gVi_houses v) (gVi_people v) sc a tales sight went path home votes (gVi_people v) 0 (-9)
  have e : ∀ (r k : Nat) (c m : Int32), k + r = gVi_people v → ((c = -9 ∧ m = 0) ∨ ∃ j, j < 6 ∧ c = nI j ∧ m = nI (cn (f_X8_hanged_L8 aw u s v now sc fits kinds moons places values (gVi_people v) 0 0) j) ∧ 0 < cn (f_X8_hanged_L8 aw u s v now sc fits kinds moons places values (gVi_people v) 0 0) j) → (f_X8_hanged_L82 aw u s v now sc fits kinds moons places values r k c m).1 = f_X9_hanged_L86 (gVi_houses v) (gVi_people v) sc a tales sight went path home votes r k c := by
    intro r
    induction r with
    | zero => intro k c m _ _; rfl
    | succ r ih =>
      intro k c m hk hi
      obtain ⟨g1, g2⟩ := hv k (by omega)
      simp only [f_X8_hanged_L82, f_X9_hanged_L86]
      unfold f_X8_hanged_x2 f_X9_hanged_x2
      rw [g1, cell_cn]
      generalize hz : cn (f_X8_hanged_L8 aw u s v now sc fits kinds moons places values (gVi_people v) 0 0) k = z at g2
      rcases hi with ⟨h1, h2⟩ | ⟨j, hj, h1, h2, h3⟩
      · subst h1; subst h2
        by_cases c0 : nI z ≤ 0
        · simp only [if_pos c0]; exact ih _ _ _ (by omega) (Or.inl ⟨rfl, rfl⟩)
        · simp only [if_neg c0, if_true]
          have : ¬ z = 0 := fun e => c0 (by rw [e]; decide)
          exact ih _ _ _ (by omega) (Or.inr ⟨k, by omega, rfl, by rw [hz], by rw [hz]; omega⟩)
      · subst h1; subst h2
        obtain ⟨g3, g4⟩ := hv j hj
        rw [tn_nI (by omega), g3]
        by_cases c0 : nI z ≤ nI (cn (f_X8_hanged_L8 aw u s v now sc fits kinds moons places values (gVi_people v) 0 0) j)
        · have h9 : ¬ nI j = -9 := nI9 (by omega)
          simp only [if_pos c0, if_neg h9, ite_self]
          exact ih _ _ _ (by omega) (Or.inr ⟨j, hj, rfl, rfl, h3⟩)
        · have hzj : cn (f_X8_hanged_L8 aw u s v now sc fits kinds moons places values (gVi_people v) 0 0) j < z := Nat.lt_of_not_le fun y => c0 ((nI_le_ (by omega) (by omega)).mpr y)
          have hz0 : ¬ nI z ≤ 0 := fun y => by have := (nI_le_ (a := z) (b := 0) (by omega) (by omega)).mp y; omega
          have h9 : ¬ nI j = -9 := nI9 (by omega)
          simp only [if_neg c0, if_neg hz0, if_neg h9]
          exact ih _ _ _ (by omega) (Or.inr ⟨k, by omega, rfl, by rw [hz], by rw [hz]; omega⟩)
  exact e (gVi_people v) 0 (-9) 0 (by omega) (Or.inl ⟨rfl, rfl⟩)
theorem q_locked (R : RR kS tl bytes v now st ct bs ss sc kinds moons places values path home kin a was kept isKept text sight) (aw : Int32) (u s : Int64) (fits tales : Nat → Int64) (went : Nat → Int32) : (f_X8_locked aw u s v now sc fits kinds moons places values).1 = (f_X9_locked (gVi_houses v) (gVi_people v) sc a tales sight went path home).1 := by
  obtain ⟨x, hF, hFG, hs⟩ := tctx R aw u s fits tales went
  obtain ⟨W, ⟨N, I⟩, A, K, S, T⟩ := R
  have hP := W.hP
  have hH := W.hH
  have hsus := suspects_eq hF hFG hP (fun i hi h0 p hp hh => ((there_hb now v hP p).mp (hs i hi h0 p hp hh)).1)
  have hlk : ∀ k, k < 16 → f_X9_locked_L35 (gVi_houses v) (gVi_people v) sc a tales sight went path home k (gVi_people v) 0 true = f_X8_lockedIn now v (f_X5_inSome (f_X8_tellTales aw u s v now sc fits kinds moons places values).2.2.2.2) (nI k) := fun k hk => by
    refine (lockedIn_eq W N _ k hk (fun r p b => f_X9_locked_L35 (gVi_houses v) (gVi_people v) sc a tales sight went path home k r p b) (fun _ _ => rfl) (fun r p b => ?_)).symm
    show f_X9_locked_L35 (gVi_houses v) (gVi_people v) sc a tales sight went path home k r (p + 1) (f_X9_locked_x1 (gVi_houses v) (gVi_people v) sc a tales sight went path home k p b) = _
    unfold f_X9_locked_x1
    rw [hsus]
  have hb16 : ∀ k, k < 16 → f_J6_bitCount_0f7a4 (nI k) = f_X9_bits (nI k) := bits16
  have hbel : f_X8_below (nI (gVi_houses v)) = nI (pw (gVi_houses v) - 1) := by
    have : ∀ h, h ≤ 4 → f_X8_below (nI h) = nI (pw h - 1) := by decide +kernel
    exact this _ hH
  have hpw : pw (gVi_houses v) ≤ 16 := pw_le hH
  have hpw1 : 1 ≤ pw (gVi_houses v) := Nat.pos_of_ne_zero (by unfold pw; intro z; have := Nat.pow_eq_zero.mp z; omega)
  -- all houses barred always holds
  have hall : f_X8_lockedIn now v (f_X5_inSome (f_X8_tellTales aw u s v now sc fits kinds moons places values).2.2.2.2) (nI (pw (gVi_houses v) - 1)) = true := by
    have e : ∀ (r k : Nat) (sus : Int32), k + r = gVi_people v → f_X8_lockedIn_L30 now v sus (nI (pw (gVi_houses v) - 1)) r k = true := by
      intro r
      induction r with
      | zero => intro k sus _; rfl
      | succ r ih =>
        intro k sus hk
        simp only [f_X8_lockedIn_L30]
        rw [ih _ _ (by omega)]
        have h4 := W.hcn (p := k) (by omega)
        have hin := W.hin (p := k) (by omega)
        rw [← hbel, cell_cn (gVi_homes v) k, has_hb (x := gN_barred now ||| f_X8_below (nI (gVi_houses v))) (by omega), hb_or, hb_below (by omega), decide_eq_true hin, Bool.or_true]
        simp
    exact e _ 0 _ (by omega)
  have hmono : ∀ m, m < 16 → ∀ h, h ≤ 4 → m < pw h - 1 → f_X9_bits (nI m) < f_X9_bits (nI (pw h - 1)) := by decide +kernel
  have hbitle : ∀ m, m < 16 → ∀ h, h ≤ 4 → m ≤ pw h - 1 → f_X9_bits (nI m) ≤ f_X9_bits (nI (pw h - 1)) := by decide +kernel
  show f_X8_locked_L25 aw u s v now sc fits kinds moons places values 16 0 (f_X8_below (nI (gVi_houses v))) = f_X9_locked_L19 (gVi_houses v) (gVi_people v) sc a tales sight went path home (pw (gVi_houses v)) 0 (-9)
  have e : ∀ (r k t : Nat) (c b : Int32), k + r = pw (gVi_houses v) → k + t = 16 → ((b = -9 ∧ c = nI (pw (gVi_houses v) - 1) ∧ k < pw (gVi_houses v)) ∨ ∃ j, j ≤ pw (gVi_houses v) - 1 ∧ b = nI j ∧ c = nI j) → f_X8_locked_L25 aw u s v now sc fits kinds moons places values t k c = f_X9_locked_L19 (gVi_houses v) (gVi_people v) sc a tales sight went path home r k b := by
    intro r
    induction r with
    | zero =>
      intro k t c b hk ht hi
      rcases hi with ⟨_, _, h⟩ | ⟨j, h1, h2, h3⟩
      · omega
      · subst h2; subst h3
        cases t with
        | zero => rfl
        | succ t =>
          simp only [f_X8_locked_L25, f_X9_locked_L19]
          rw [if_pos (by rw [hbel]; exact (nI_lt_ (by omega) (by omega)).mpr (by omega))]
    | succ r ih =>
      intro k t c b hk ht hi
      obtain ⟨t, rfl⟩ : ∃ z, t = z + 1 := ⟨t - 1, by omega⟩
      simp only [f_X8_locked_L25, f_X9_locked_L19]
      rw [if_neg (by rw [hbel]; exact fun y => by have := (nI_lt_ (by omega) (by omega)).mp y; omega), hlk k (by omega)]
      unfold f_X8_locked_x1
      rw [hb16 k (by omega)]
      rcases hi with ⟨h1, h2, h3⟩ | ⟨j, h1, h2, h3⟩
      · subst h1; subst h2
        rw [hb16 _ (by omega)]
        by_cases el : k = pw (gVi_houses v) - 1
        · subst el
          rw [hall]
          simp only [if_true, Int32.le_refl]
          exact ih _ _ _ _ (by omega) (by omega) (Or.inr ⟨_, Nat.le_refl _, rfl, rfl⟩)
        · have hlt := hmono k (by omega) _ hH (by omega)
          rw [if_neg (Int32.not_le.mpr hlt)]
          by_cases ch : f_X8_lockedIn now v (f_X5_inSome (f_X8_tellTales aw u s v now sc fits kinds moons places values).2.2.2.2) (nI k) = true
          · rw [if_pos ch, if_pos ch, if_pos rfl]
            exact ih _ _ _ _ (by omega) (by omega) (Or.inr ⟨k, by omega, rfl, rfl⟩)
          · rw [if_neg ch, if_neg ch]
            exact ih _ _ _ _ (by omega) (by omega) (Or.inl ⟨rfl, rfl, by omega⟩)
      · subst h2; subst h3
        rw [hb16 j (by omega)]
        by_cases cb : f_X9_bits (nI j) ≤ f_X9_bits (nI k)
        · rw [if_pos cb, if_neg (nI9 (by omega)), if_pos cb, ite_self]
          exact ih _ _ _ _ (by omega) (by omega) (Or.inr ⟨j, h1, rfl, rfl⟩)
        · rw [if_neg cb, if_neg (nI9 (by omega)), if_neg cb]
          by_cases ch : f_X8_lockedIn now v (f_X5_inSome (f_X8_tellTales aw u s v now sc fits kinds moons places values).2.2.2.2) (nI k) = true
          · rw [if_pos ch]
            exact ih _ _ _ _ (by omega) (by omega) (Or.inr ⟨k, by omega, rfl, rfl⟩)
          · rw [if_neg ch]
            exact ih _ _ _ _ (by omega) (by omega) (Or.inr ⟨j, h1, rfl, rfl⟩)
  rw [hbel]
  exact e _ 0 16 _ _ (by omega) (by omega) (Or.inl ⟨rfl, rfl, by omega⟩)
end CALLS4
