/-! the whole relation -/
theorem NR.congr {P : Nat} {n : TN} {a b : Nat → Int32} (h : ∀ i, i < 43 → a i = b i) (R : NR P n a) : NR P n b := by
  obtain ⟨r0, r1, r2, r3, r4, r5, r6, r7, r8⟩ := R
  exact ⟨(h 0 (by omega)).symm.trans r0, fun i hi => (h _ (by omega)).symm.trans (r1 i hi), fun i hi => (h _ (by omega)).symm.trans (r2 i hi), fun i hi => (h _ (by omega)).symm.trans (r3 i hi), fun i hi => (h _ (by omega)).symm.trans (r4 i hi), fun i hi => (h _ (by omega)).symm.trans (r5 i hi), fun i hi => (h _ (by omega)).symm.trans (r6 i hi), fun i hi => (h _ (by omega)).symm.trans (r7 i hi), fun i hi => (h _ (by omega)).symm.trans (r8 i hi)⟩
def NN (H P : Nat) (n : TN) (a : Nat → Int32) : Prop := NR P n a ∧ NI H P n
theorem NN.congr {H P : Nat} {n : TN} {a b : Nat → Int32} (h : ∀ i, i < 43 → a i = b i) (R : NN H P n a) : NN H P n b := ⟨R.1.congr h, R.2⟩
def AR (H P st ct : Nat) (bs : Nat → TN) (was : Nat → Int32) : Prop := st < 16 ∧ ct ≤ 16 ∧ ∀ k, k < ct → NN H P (bs ((st + k) % 16)) (fun i => was (43 * k + i))
def KR (H P : Nat) (kS : Int32) (ss : Nat → TN) (kept isKept : Nat → Int32) : Prop := ∀ s, s < 2 → isKept s = bI (hb kS s) ∧ (hb kS s = true → NN H P (ss s) (fun i => kept (43 * s + i)))
def SK (k m p x : Int32) : Prop := (k = 0 ∧ (∃ j, j < 3 ∧ m = nI j) ∧ (∃ j, j < 4 ∧ p = nI j) ∧ ∃ j, j ≤ 6 ∧ x = nI j) ∨ (k = 1 ∧ (∃ j, j < 3 ∧ m = nI j) ∧ (∃ j, j < 6 ∧ p = nI j) ∧ ∃ b : Bool, x = bI b) ∨ (k = 2 ∧ m = 0 ∧ (∃ j, j < 6 ∧ p = nI j) ∧ ∃ b : Bool, x = bI b)
def SR (sc : Nat) (kinds moons places values sight : Nat → Int32) : Prop := sc ≤ 6 ∧ ∀ k, k < sc → sight (4 * k) = kinds k ∧ sight (4 * k + 1) = moons k ∧ sight (4 * k + 2) = places k ∧ sight (4 * k + 3) = values k ∧ SK (kinds k) (moons k) (places k) (values k)
def TR (tl : Nat) (bytes text : Nat → Int32) : Prop := tl ≤ 96 ∧ ∀ k, k < tl → ∃ c, c < 256 ∧ text k = nI c ∧ bytes k &&& 255 = nI c
def RR (kS : Int32) (tl : Nat) (bytes : Nat → Int32) (v : TVi) (now : TN) (st ct : Nat) (bs ss : Nat → TN) (sc : Nat) (kinds moons places values : Nat → Int32) (path home kin a was kept isKept text sight : Nat → Int32) : Prop :=
  VR v path home kin ∧ NN (gVi_houses v) (gVi_people v) now a ∧ AR (gVi_houses v) (gVi_people v) st ct bs was ∧ KR (gVi_houses v) (gVi_people v) kS ss kept isKept ∧ SR sc kinds moons places values sight ∧ TR tl bytes text
/-! acts -/
theorem k11_at : ∀ (r k : Nat) (y : Nat → Int32) (i : Nat), f_X9_keeps_L11 r k y i = if k ≤ i ∧ i < k + r then y (i + 43) else y i := by
  intro r
  induction r with
  | zero => intro k y i; rw [if_neg (by omega)]; rfl
  | succ r ih =>
    intro k y i
    simp only [f_X9_keeps_L11]
    rw [ih]
    by_cases e : i = k
    · subst e
      rw [if_neg (by omega), upd_at, if_pos rfl, if_pos (by omega)]
    · by_cases h : k ≤ i ∧ i < k + (r + 1)
      · rw [if_pos h, if_pos (by omega), upd_at, if_neg (by omega)]
      · rw [if_neg h, if_neg (by omega), upd_at, if_neg e]
theorem k51_at (x : Nat) (now : Nat → Int32) : ∀ (r k : Nat) (y : Nat → Int32) (i : Nat), f_X9_keeps_L51 x now r k y i = if 43 * (if x = 16 then x - 1 else x) + k ≤ i ∧ i < 43 * (if x = 16 then x - 1 else x) + k + r then now (i - 43 * (if x = 16 then x - 1 else x)) else y i := by
  generalize hB : 43 * (if x = 16 then x - 1 else x) = B
  intro r
  induction r with
  | zero => intro k y i; rw [if_neg (by omega)]; rfl
  | succ r ih =>
    intro k y i
    simp only [f_X9_keeps_L51]
    rw [ih, hB, upd_at]
    by_cases e : i = B + k
    · subst e
      rw [if_neg (by omega), if_pos rfl, if_pos (by omega)]
      congr 1
      omega
    · rw [if_neg e]
      by_cases h : B + k ≤ i ∧ i < B + k + (r + 1)
      · rw [if_pos h, if_pos (by omega)]
      · rw [if_neg h, if_neg (by omega)]
theorem keeps_at (x : Nat) (was now : Nat → Int32) (i : Nat) : (f_X9_keeps x was now).2 i = if 43 * (if x = 16 then x - 1 else x) ≤ i ∧ i < 43 * (if x = 16 then x - 1 else x) + 43 then now (i - 43 * (if x = 16 then x - 1 else x)) else if x = 16 ∧ i < 645 then was (i + 43) else was i := by
  unfold f_X9_keeps
  dsimp only
  rw [k51_at]
  simp only [Nat.add_zero]
  generalize 43 * (if x = 16 then x - 1 else x) = B
  by_cases hh : B ≤ i ∧ i < B + 43
  · rw [if_pos hh, if_pos hh]
  · rw [if_neg hh, if_neg hh]
    by_cases h : x = 16
    · rw [if_pos h, k11_at]
      by_cases c : i < 645
      · rw [if_pos (by omega), if_pos ⟨h, c⟩]
      · rw [if_neg (by omega), if_neg (by omega)]
    · rw [if_neg h, if_neg (by omega)]
theorem bitOf_bI {x : Int32} {i : Nat} (h : i < 32) : f_X8_bitOf x (nI i) = bI (hb x i) := bitOf_hb h
theorem vaup_same {bs : Nat → TN} {k : Nat} {el : TN} (h : bs k = el) : va_up bs k el = bs := by
  funext i
  unfold va_up
  by_cases e : i = k
  · rw [if_pos e, e, h]
  · rw [if_neg e]
theorem cpF (n o : TN) : f_X2_copyFrom n o = o := rfl
theorem AR_add {H P st ct : Nat} {bs : Nat → TN} {was a : Nat → Int32} {n : TN} (R : AR H P st ct bs was) (N : NN H P n a) (el : TN) :
    (f_X0_add st ct n el).2.1 = (f_X9_keeps ct was a).1 ∧ AR H P (f_X0_add st ct n el).1 (f_X0_add st ct n el).2.1 (va_up bs (actIx st ct) (f_X0_add st ct n el).2.2) (f_X9_keeps ct was a).2 := by
  obtain ⟨h1, h2, h3⟩ := R
  have e3 : (f_X0_add st ct n el).2.2 = n := rfl
  have e1 : (f_X0_add st ct n el).1 = if ct < 16 then st else (st + 1) % 16 := rfl
  have e2 : (f_X0_add st ct n el).2.1 = (if ct < 16 then ct else 15) + 1 := rfl
  have e4 : (f_X9_keeps ct was a).1 = (if ct = 16 then ct - 1 else ct) + 1 := rfl
  rw [e1, e2, e3, e4]
  by_cases c : ct < 16
  · rw [if_pos c, if_pos c, if_neg (by omega)]
    refine ⟨rfl, h1, by omega, fun k hk => ?_⟩
    have ea : actIx st ct = (st + ct) % 16 := by unfold actIx; rw [if_pos c, if_pos c]
    rw [ea]
    by_cases e : k = ct
    · subst e
      have : va_up bs ((st + k) % 16) n ((st + k) % 16) = n := if_pos rfl
      rw [this]
      refine N.congr fun i hi => ?_
      rw [keeps_at, if_neg (show ¬ k = 16 by omega), if_pos (by omega)]
      exact congrArg a (by omega)
    · have : va_up bs ((st + ct) % 16) n ((st + k) % 16) = bs ((st + k) % 16) := if_neg (by omega)
      rw [this]
      refine (h3 k (by omega)).congr fun i hi => ?_
      rw [keeps_at, if_neg (show ¬ ct = 16 by omega), if_neg (by omega), if_neg (by omega)]
  · obtain rfl : ct = 16 := by omega
    rw [if_neg c, if_neg c, if_pos rfl]
    refine ⟨rfl, by omega, by omega, fun k hk => ?_⟩
    have ea : actIx st 16 = ((st + 1) % 16 + 15) % 16 := by unfold actIx; rw [if_neg c, if_neg c]
    rw [ea]
    by_cases e : k = 15
    · subst e
      have : va_up bs (((st + 1) % 16 + 15) % 16) n (((st + 1) % 16 + 15) % 16) = n := if_pos rfl
      rw [this]
      refine N.congr fun i hi => ?_
      rw [keeps_at, if_pos rfl, if_pos (by omega)]
      exact congrArg a (by omega)
    · have : va_up bs (((st + 1) % 16 + 15) % 16) n (((st + 1) % 16 + k) % 16) = bs (((st + 1) % 16 + k) % 16) := if_neg (by omega)
      rw [this]
      have ek : ((st + 1) % 16 + k) % 16 = (st + (k + 1)) % 16 := by omega
      rw [ek]
      refine (h3 (k + 1) (by omega)).congr fun i hi => ?_
      rw [keeps_at, if_pos rfl, if_neg (by omega), if_pos (by omega)]
      exact congrArg was (by omega)
theorem actIx_lt (st ct : Nat) : actIx st ct < 16 := by unfold actIx; omega
theorem u27_at (x : Nat) (was : Nat → Int32) : ∀ (r k : Nat) (y : Nat → Int32) (i : Nat), f_X9_undo_L27 x was r k y i = if k ≤ i ∧ i < k + r then was (43 * (x - 1) + i) else y i := by
  intro r
  induction r with
  | zero => intro k y i; rw [if_neg (by omega)]; rfl
  | succ r ih =>
    intro k y i
    simp only [f_X9_undo_L27]
    rw [ih, upd_at]
    by_cases e : i = k
    · subst e; rw [if_neg (by omega), if_pos rfl, if_pos (by omega)]
    · rw [if_neg e]
      by_cases h : k ≤ i ∧ i < k + (r + 1)
      · rw [if_pos h, if_pos (by omega)]
      · rw [if_neg h, if_neg (by omega)]
theorem keep_at (now : Nat → Int32) (p : Int32) : ∀ (r k : Nat) (y : Nat → Int32) (i : Nat), f_X9_keep_L19 now p r k y i = if 43 * tn p + k ≤ i ∧ i < 43 * tn p + k + r then now (i - 43 * tn p) else y i := by
  generalize hB : 43 * tn p = B
  intro r
  induction r with
  | zero => intro k y i; rw [if_neg (by omega)]; rfl
  | succ r ih =>
    intro k y i
    simp only [f_X9_keep_L19]
    rw [ih, hB, upd_at]
    by_cases e : i = B + k
    · subst e
      rw [if_neg (by omega), if_pos rfl, if_pos (by omega)]
      congr 1
      omega
    · rw [if_neg e]
      by_cases h : B + k ≤ i ∧ i < B + k + (r + 1)
      · rw [if_pos h, if_pos (by omega)]
      · rw [if_neg h, if_neg (by omega)]
theorem again_at (kept : Nat → Int32) (p : Int32) : ∀ (r k : Nat) (y : Nat → Int32) (i : Nat), f_X9_again_L31 kept p r k y i = if k ≤ i ∧ i < k + r then kept (43 * tn p + i) else y i := by
  intro r
  induction r with
  | zero => intro k y i; rw [if_neg (by omega)]; rfl
  | succ r ih =>
    intro k y i
    simp only [f_X9_again_L31]
    rw [ih, upd_at]
    by_cases e : i = k
    · subst e; rw [if_neg (by omega), if_pos rfl, if_pos (by omega)]
    · rw [if_neg e]
      by_cases h : k ≤ i ∧ i < k + (r + 1)
      · rw [if_pos h, if_pos (by omega)]
      · rw [if_neg h, if_neg (by omega)]
/-! the calls -/
section CALLS
variable {kS : Int32} {tl : Nat} {bytes : Nat → Int32} {v : TVi} {now : TN} {st ct : Nat} {bs ss : Nat → TN} {sc : Nat} {kinds moons places values : Nat → Int32} {path home kin a was kept isKept text sight : Nat → Int32}
theorem q_house (R : RR kS tl bytes v now st ct bs ss sc kinds moons places values path home kin a was kept isKept text sight) (p1 p2 : Int32) : f_X8_house v now p1 p2 = (f_X9_house (gVi_houses v) (gVi_people v) home a path p1 p2).1 := by
  obtain ⟨W, ⟨N, I⟩, _⟩ := R
  unfold f_X8_house f_X9_house
  rw [noHouse_eq W.hH]
  by_cases c : f_X8_noHouse v p1 = true
  · rw [if_pos c, if_pos c]
  · rw [if_neg c, if_neg c]
    obtain ⟨j, hj, rfl⟩ := nh_ex W.hH c
    have hH := W.hH
    have h4 : j < 4 := by omega
    rw [tn_nI (by omega)]
    have e3 : f_X9_house_L20 home (nI j) (gVi_people v) 0 0 = f_X7_dwellers v (nI j) := by
      have acc : ∀ (r k : Nat) (s : Int32), f_X9_house_L20 home (nI j) r k s = accP (fun i => decide (home i = nI j)) r k s := by
        intro r
        induction r with
        | zero => intro k s; rfl
        | succ r ih =>
          intro k s
          simp only [f_X9_house_L20, accP, decide_eq_true_eq]
          rw [ih, or_if, tn_nI (by omega)]
          rfl
      have hP := W.hP
      refine hb_iff fun i _ => ?_
      rw [acc, accP_0 (by omega), dw_hb v hP, decide_eq_true_eq]
      refine and_congr_right fun hi => ?_
      rw [W.hhome (by omega)]
    rw [e3, nextTo_1 W h4, nextTo_2 W h4, N.sheep h4, N.bolt h4, N.track h4]
    (repeat' split) <;> rfl
theorem q_person (R : RR kS tl bytes v now st ct bs ss sc kinds moons places values path home kin a was kept isKept text sight) (p1 p2 : Int32) : f_X8_person v now p1 p2 = (f_X9_person (gVi_people v) home a kin p1 p2).1 := by
  obtain ⟨W, ⟨N, I⟩, _⟩ := R
  unfold f_X8_person f_X9_person
  rw [noOne_eq W.hP]
  by_cases c : f_X8_noPerson v p1 = true
  · rw [if_pos c, if_pos c]
  · rw [if_neg c, if_neg c]
    obtain ⟨j, hj, rfl⟩ := np_ex W.hP c
    have hP := W.hP
    have h6 : j < 6 := by omega
    rw [tn_nI (by omega), W.hhome h6, W.hkin h6, N.wolf h6, N.bitt h6, N.gone h6, N.out h6, N.biter h6, if_pos hj, bitOf_bI (by omega), bitOf_bI (by omega), bitOf_bI (by omega), bitOf_bI (by omega)]
    (repeat' split) <;> rfl
theorem q_may (R : RR kS tl bytes v now st ct bs ss sc kinds moons places values path home kin a was kept isKept text sight) (p1 : Int32) : f_X8_may v now p1 = (f_X9_may (gVi_houses v) (gVi_people v) a home path p1).1 := by
  obtain ⟨W, ⟨N, I⟩, _⟩ := R
  unfold f_X8_may f_X9_may
  rw [noOne_eq W.hP]
  by_cases c : f_X8_noPerson v p1 = true
  · rw [if_pos c, if_pos c]
  · rw [if_neg c, if_neg c]
    obtain ⟨j, hj, rfl⟩ := np_ex W.hP c
    have hP := W.hP
    rw [tn_nI (by omega), goals_eq N W (by omega)]
theorem q_prey (R : RR kS tl bytes v now st ct bs ss sc kinds moons places values path home kin a was kept isKept text sight) (p1 p2 : Int32) : f_X8_prey v now p1 p2 = (f_X9_prey (gVi_houses v) (gVi_people v) a home path kin p1 p2).1 := by
  obtain ⟨W, ⟨N, I⟩, _⟩ := R
  unfold f_X8_prey f_X9_prey
  rw [noOne_eq W.hP, noHouse_eq W.hH]
  by_cases c : f_X8_noPerson v p1 = true
  · rw [if_pos c, if_pos c]
  · rw [if_neg c, if_neg c]
    by_cases c2 : f_X8_noHouse v p2 = true
    · rw [if_pos c2, if_pos c2]
    · rw [if_neg c2, if_neg c2]
      obtain ⟨j, hj, rfl⟩ := np_ex W.hP c
      obtain ⟨h, hh, rfl⟩ := nh_ex W.hH c2
      have hP := W.hP
      have hH := W.hH
      rw [tn_nI (by omega), tn_nI (by omega), goals_eq N W (by omega), victim_eq N W (by omega) (by omega)]
      rfl
theorem q_visit (R : RR kS tl bytes v now st ct bs ss sc kinds moons places values path home kin a was kept isKept text sight) (p1 p2 : Int32) (el : TN) (hel : bs (actIx st ct) = el) :
    (f_X8_visit v now st ct el p1 p2).1 = (f_X9_visit (gVi_houses v) (gVi_people v) ct a home path was kin p1 p2).1 ∧ (f_X8_visit v now st ct el p1 p2).2.2.2.1 = (f_X9_visit (gVi_houses v) (gVi_people v) ct a home path was kin p1 p2).2.2.1 ∧
    RR kS tl bytes v (f_X8_visit v now st ct el p1 p2).2.1 (f_X8_visit v now st ct el p1 p2).2.2.1 (f_X8_visit v now st ct el p1 p2).2.2.2.1 (va_up bs (actIx st ct) (f_X8_visit v now st ct el p1 p2).2.2.2.2) ss sc kinds moons places values path home kin (f_X9_visit (gVi_houses v) (gVi_people v) ct a home path was kin p1 p2).2.2.2.1 (f_X9_visit (gVi_houses v) (gVi_people v) ct a home path was kin p1 p2).2.2.2.2 kept isKept text sight := by
  have hsame : va_up bs (actIx st ct) el = bs := vaup_same hel
  obtain ⟨W, ⟨N, I⟩, A, K, S, T⟩ := R
  unfold f_X8_visit f_X9_visit
  rw [noOne_eq W.hP, noHouse_eq W.hH]
  by_cases c : f_X8_noPerson v p1 = true
  · rw [if_pos c, if_pos c]; dsimp only; rw [hsame]; exact ⟨rfl, rfl, W, ⟨N, I⟩, A, K, S, T⟩
  · rw [if_neg c, if_neg c]
    by_cases c2 : f_X8_noHouse v p2 = true
    · rw [if_pos c2, if_pos c2]; dsimp only; rw [hsame]; exact ⟨rfl, rfl, W, ⟨N, I⟩, A, K, S, T⟩
    · rw [if_neg c2, if_neg c2]
      obtain ⟨j, hj, rfl⟩ := np_ex W.hP c
      obtain ⟨h, hh, rfl⟩ := nh_ex W.hH c2
      have hP := W.hP
      have hH := W.hH
      rw [tn_nI (by omega), tn_nI (by omega), goals_eq N W (by omega)]
      by_cases c3 : f_X8_has (f_X2_goals now v (nI j)) (nI h) = true
      · rw [if_pos c3, if_pos (show f_X9_has _ _ = true from c3)]
        dsimp only
        have hg : hb (f_X2_goals now v (nI j)) h = true := by rw [has_hb (by omega)] at c3; exact c3
        obtain ⟨k1, k2⟩ := AR_add A ⟨N, I⟩ el
        exact ⟨(walk_res N W (by omega) (by omega)).symm, k1, W, ⟨walk_NR N I W hj hg, walk_NI I W hj hg⟩, k2, K, S, T⟩
      · rw [if_neg c3, if_neg (show ¬ f_X9_has _ _ = true from c3)]; dsimp only; rw [hsame]; exact ⟨rfl, rfl, W, ⟨N, I⟩, A, K, S, T⟩
theorem q_dawn (R : RR kS tl bytes v now st ct bs ss sc kinds moons places values path home kin a was kept isKept text sight) (el : TN) :
    (f_X8_dawn st ct now el).1 = (f_X9_dawn (gVi_people v) ct was a).1 ∧ (f_X8_dawn st ct now el).2.2.1 = (f_X9_dawn (gVi_people v) ct was a).2.2.1 ∧
    RR kS tl bytes v (f_X8_dawn st ct now el).2.2.2.1 (f_X8_dawn st ct now el).2.1 (f_X8_dawn st ct now el).2.2.1 (va_up bs (actIx st ct) (f_X8_dawn st ct now el).2.2.2.2) ss sc kinds moons places values path home kin (f_X9_dawn (gVi_people v) ct was a).2.2.2.2 (f_X9_dawn (gVi_people v) ct was a).2.2.2.1 kept isKept text sight := by
  obtain ⟨W, ⟨N, I⟩, A, K, S, T⟩ := R
  obtain ⟨k1, k2⟩ := AR_add A ⟨N, I⟩ el
  exact ⟨(dawn_res N I W.hP).symm, k1, W, ⟨dawn_NR N I W.hP, dawn_NI I⟩, k2, K, S, T⟩
theorem q_hang (R : RR kS tl bytes v now st ct bs ss sc kinds moons places values path home kin a was kept isKept text sight) (p1 : Int32) (el : TN) (hel : bs (actIx st ct) = el) :
    (f_X8_hang v now st ct el p1).1 = (f_X9_hang (gVi_people v) ct a was p1).1 ∧ (f_X8_hang v now st ct el p1).2.2.2.1 = (f_X9_hang (gVi_people v) ct a was p1).2.2.1 ∧
    RR kS tl bytes v (f_X8_hang v now st ct el p1).2.1 (f_X8_hang v now st ct el p1).2.2.1 (f_X8_hang v now st ct el p1).2.2.2.1 (va_up bs (actIx st ct) (f_X8_hang v now st ct el p1).2.2.2.2) ss sc kinds moons places values path home kin (f_X9_hang (gVi_people v) ct a was p1).2.2.2.1 (f_X9_hang (gVi_people v) ct a was p1).2.2.2.2 kept isKept text sight := by
  have hsame : va_up bs (actIx st ct) el = bs := vaup_same hel
  obtain ⟨W, ⟨N, I⟩, A, K, S, T⟩ := R
  unfold f_X8_hang f_X9_hang
  rw [noOne_eq W.hP]
  by_cases c : f_X8_noPerson v p1 = true
  · rw [if_pos c, if_pos c]; dsimp only; rw [hsame]; exact ⟨rfl, rfl, W, ⟨N, I⟩, A, K, S, T⟩
  · rw [if_neg c, if_neg c]
    obtain ⟨j, hj, rfl⟩ := np_ex W.hP c
    have hP := W.hP
    rw [tn_nI (by omega), N.isThere (by omega), has_hb (by omega)]
    by_cases c3 : hb (gN_gone now) j = true
    · rw [if_pos c3, if_neg (by rw [c3]; decide)]; dsimp only; rw [hsame]; exact ⟨rfl, rfl, W, ⟨N, I⟩, A, K, S, T⟩
    · rw [if_neg c3, if_pos (by rw [Bool.eq_false_iff.mpr c3]; rfl)]
      dsimp only
      obtain ⟨k1, k2⟩ := AR_add A ⟨N, I⟩ el
      refine ⟨?_, k1, W, ⟨hang_NR N (by omega), hang_NI I hj hP⟩, k2, K, S, T⟩
      rw [bitOf_bI (by omega)]
      unfold f_X9_of
      rw [upd_at, if_neg (by omega)]
      exact (N.wolf (i := j) (by omega)).symm
theorem q_bolt (R : RR kS tl bytes v now st ct bs ss sc kinds moons places values path home kin a was kept isKept text sight) (p1 p2 : Int32) (el : TN) (hel : bs (actIx st ct) = el) :
    (f_X8_bolt v now st ct el p1 p2).1 = (f_X9_bolt (gVi_houses v) ct a was p1 p2).1 ∧ (f_X8_bolt v now st ct el p1 p2).2.2.2.1 = (f_X9_bolt (gVi_houses v) ct a was p1 p2).2.2.1 ∧
    RR kS tl bytes v (f_X8_bolt v now st ct el p1 p2).2.1 (f_X8_bolt v now st ct el p1 p2).2.2.1 (f_X8_bolt v now st ct el p1 p2).2.2.2.1 (va_up bs (actIx st ct) (f_X8_bolt v now st ct el p1 p2).2.2.2.2) ss sc kinds moons places values path home kin (f_X9_bolt (gVi_houses v) ct a was p1 p2).2.2.2.1 (f_X9_bolt (gVi_houses v) ct a was p1 p2).2.2.2.2 kept isKept text sight := by
  have hsame : va_up bs (actIx st ct) el = bs := vaup_same hel
  obtain ⟨W, ⟨N, I⟩, A, K, S, T⟩ := R
  unfold f_X8_bolt f_X9_bolt
  rw [noHouse_eq W.hH]
  by_cases c : f_X8_noHouse v p1 = true
  · rw [if_pos c, if_pos c]; dsimp only; rw [hsame]; exact ⟨rfl, rfl, W, ⟨N, I⟩, A, K, S, T⟩
  · rw [if_neg c, if_neg c]
    obtain ⟨h, hh, rfl⟩ := nh_ex W.hH c
    have hH := W.hH
    rw [tn_nI (by omega)]
    have hin := inI p2 0 2
    rw [show (0 : Int32).toInt64 = 0 from rfl, show (2 : Int32).toInt64 = 2 from rfl] at hin
    by_cases c1 : p2 < 0
    · rw [if_pos c1, if_neg (fun z => (hin.mp z).1 c1)]; dsimp only; rw [hsame]; exact ⟨rfl, rfl, W, ⟨N, I⟩, A, K, S, T⟩
    · rw [if_neg c1]
      by_cases c2 : p2 ≤ 2
      · rw [if_pos c2, if_pos (hin.mpr ⟨c1, Int32.not_lt.mpr c2⟩)]
        obtain ⟨b, hb0, rfl⟩ := nI_of c1
        have hb2 : b ≤ 2 := (nI_le_ hb0 (by omega)).mp c2
        rw [tn_nI (by omega), N.bolt (by omega)]
        by_cases c3 : f_X2_boltOf now (nI h) = nI b
        · rw [if_pos c3, if_pos c3]; dsimp only; rw [hsame]; exact ⟨rfl, rfl, W, ⟨N, I⟩, A, K, S, T⟩
        · rw [if_neg c3, if_neg c3]
          dsimp only
          obtain ⟨k1, k2⟩ := AR_add A ⟨N, I⟩ el
          exact ⟨rfl, k1, W, ⟨bolt_NR N (by omega) hb2, bolt_NI I _ _⟩, k2, K, S, T⟩
      · rw [if_neg c2, if_neg (fun z => (hin.mp z).2 (Int32.not_le.mp c2))]; dsimp only; rw [hsame]; exact ⟨rfl, rfl, W, ⟨N, I⟩, A, K, S, T⟩
theorem q_undo (R : RR kS tl bytes v now st ct bs ss sc kinds moons places values path home kin a was kept isKept text sight) (el : TN) (hel : bs ((st + ct - 1) % 16) = el) :
    (f_X8_undo ct now el).1 = (f_X9_undo ct a was).1 ∧ (f_X8_undo ct now el).2.1 = (f_X9_undo ct a was).2.2.1 ∧
    RR kS tl bytes v (f_X8_undo ct now el).2.2 st (f_X8_undo ct now el).2.1 bs ss sc kinds moons places values path home kin (f_X9_undo ct a was).2.2.2 was kept isKept text sight := by
  obtain ⟨W, ⟨N, I⟩, A, K, S, T⟩ := R
  unfold f_X8_undo f_X9_undo f_X0_takeBack
  by_cases c : ct = 0
  · subst c
    simp only [if_neg (show ¬ 0 < 0 by omega), if_true]
    exact ⟨by simp, by simp, W, ⟨N, I⟩, A, K, S, T⟩
  · simp only [if_pos (show 0 < ct by omega), if_neg c, if_true]
    refine ⟨by simp, by simp, W, ?_, ⟨A.1, by have := A.2.1; omega, fun k hk => A.2.2 k (by omega)⟩, K, S, T⟩
    have h := A.2.2 (ct - 1) (by omega)
    rw [show st + (ct - 1) = st + ct - 1 by omega, hel] at h
    refine NN.congr (fun i hi => ?_) h
    rw [u27_at, if_pos (by omega)]
end CALLS
