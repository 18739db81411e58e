/-! the reader's loop -/
section LOOP
variable {tl : Nat} {bytes text : Nat → Int32} {v : TVi} {read readPath readHome readKin : Nat → Int32}
theorem rp_x1 (at_ H P : Nat) : f_X9_readPart_x1 at_ H P text readKin readPath = (if text at_ = 72 then decide (H < 4) else if text at_ = 75 then f_X9_hasAnyOther P readKin else if text at_ = 80 then (!decide (H = 0) && decide (P < 6)) else if text at_ = 82 then f_X9_hasAnyWay H readPath else false) := by
  unfold f_X9_readPart_x1
  generalize text at_ = x
  have n1 : ¬ (72 : Int32) = 75 := by decide
  have n2 : ¬ (72 : Int32) = 80 := by decide
  have n3 : ¬ (72 : Int32) = 82 := by decide
  have n4 : ¬ (75 : Int32) = 80 := by decide
  have n5 : ¬ (75 : Int32) = 82 := by decide
  have n6 : ¬ (80 : Int32) = 82 := by decide
  have n7 : ¬ (82 : Int32) = 80 := by decide
  have n8 : ¬ (82 : Int32) = 75 := by decide
  have n9 : ¬ (80 : Int32) = 75 := by decide
  have m1 : ¬ (75 : Int32) = 72 := by decide
  have m2 : ¬ (80 : Int32) = 72 := by decide
  have m3 : ¬ (82 : Int32) = 72 := by decide
  generalize f_X9_hasAnyOther P readKin = o
  generalize f_X9_hasAnyWay H readPath = w
  by_cases c1 : x = 72
  · subst c1
    by_cases c : H < 4 <;> simp only [n1, n2, n3, c, if_true, if_false, decide_true, decide_false]
  · by_cases c2 : x = 75
    · subst c2
      cases o <;> simp only [m1, n4, n5, if_true, if_false, Bool.false_eq_true]
    · by_cases c3 : x = 80
      · subst c3
        by_cases c : H = 0
        · simp only [m2, n6, n9, c, if_true, if_false, decide_true, Bool.not_true, Bool.false_and]
        · by_cases d : P < 6 <;> simp only [m2, n6, n9, c, d, if_true, if_false, decide_true, decide_false, Bool.not_false, Bool.true_and]
      · by_cases c4 : x = 82
        · subst c4
          cases w <;> simp only [m3, n7, n8, if_true, if_false, Bool.false_eq_true]
        · simp only [c1, c2, c3, c4, if_false]
theorem part_side (T : TR tl bytes text) (R : PR v read readPath readHome readKin) {at_ : Nat} (hat : at_ < tl) (eA eB : Int32) :
    (f_X3_readPart (nI at_) eA eB tl bytes v).1 = (f_X9_readPart tl at_ (gVi_houses v) (gVi_people v) (gVi_pathCount v) text readKin readPath read readHome).1 ∧ (f_X3_readPart (nI at_) eA eB tl bytes v).2.1 = nI (f_X9_readPart tl at_ (gVi_houses v) (gVi_people v) (gVi_pathCount v) text readKin readPath read readHome).2.1 ∧
    ((f_X3_readPart (nI at_) eA eB tl bytes v).1 = true → at_ < (f_X9_readPart tl at_ (gVi_houses v) (gVi_people v) (gVi_pathCount v) text readKin readPath read readHome).2.1 ∧ (f_X9_readPart tl at_ (gVi_houses v) (gVi_people v) (gVi_pathCount v) text readKin readPath read readHome).2.1 ≤ tl ∧ gVi_houses (f_X3_readPart (nI at_) eA eB tl bytes v).2.2.2.2 = (f_X9_readPart tl at_ (gVi_houses v) (gVi_people v) (gVi_pathCount v) text readKin readPath read readHome).2.2.1 ∧ gVi_people (f_X3_readPart (nI at_) eA eB tl bytes v).2.2.2.2 = (f_X9_readPart tl at_ (gVi_houses v) (gVi_people v) (gVi_pathCount v) text readKin readPath read readHome).2.2.2.1 ∧ gVi_pathCount (f_X3_readPart (nI at_) eA eB tl bytes v).2.2.2.2 = (f_X9_readPart tl at_ (gVi_houses v) (gVi_people v) (gVi_pathCount v) text readKin readPath read readHome).2.2.2.2.1 ∧ PR (f_X3_readPart (nI at_) eA eB tl bytes v).2.2.2.2 (f_X9_readPart tl at_ (gVi_houses v) (gVi_people v) (gVi_pathCount v) text readKin readPath read readHome).2.2.2.2.2.2.2.1 (f_X9_readPart tl at_ (gVi_houses v) (gVi_people v) (gVi_pathCount v) text readKin readPath read readHome).2.2.2.2.2.2.1 (f_X9_readPart tl at_ (gVi_houses v) (gVi_people v) (gVi_pathCount v) text readKin readPath read readHome).2.2.2.2.2.2.2.2 (f_X9_readPart tl at_ (gVi_houses v) (gVi_people v) (gVi_pathCount v) text readKin readPath read readHome).2.2.2.2.2.1) := by
  have e0 : f_X6_byteAt tl bytes (nI at_) = text at_ := (byte_in T hat).1
  have n1 : ¬ (75 : Int32) = 72 := by decide
  have n2 : ¬ (80 : Int32) = 72 := by decide
  have n3 : ¬ (82 : Int32) = 72 := by decide
  have n4 : ¬ (80 : Int32) = 75 := by decide
  have n5 : ¬ (82 : Int32) = 75 := by decide
  have n6 : ¬ (82 : Int32) = 80 := by decide
  have n7 : ¬ (75 : Int32) = 80 := by decide
  have n8 : ¬ (75 : Int32) = 82 := by decide
  unfold f_X3_readPart f_X9_readPart
  rw [e0, rp_x1]
  by_cases c1 : text at_ = 72
  · rw [if_pos c1, if_pos c1, if_pos c1]
    by_cases c : gVi_houses v < 4
    · rw [if_pos (decide_eq_true c)]
      obtain ⟨x1, x2, x3⟩ := house_side T R hat c
      exact ⟨x1, x2, fun h => by obtain ⟨y1, y2, y3, y4, y5, y6⟩ := x3 h; exact ⟨y1, y2, y3, y4, y5, y6⟩⟩
    · rw [if_neg (show ¬ decide (gVi_houses v < 4) = true from by simp [c])]
      have : f_X3_readHouse (nI at_) v tl bytes = (false, nI at_, v) := by unfold f_X3_readHouse; rw [if_neg c]
      rw [this]
      exact ⟨rfl, rfl, fun z => (by cases z)⟩
  · rw [if_neg c1, if_neg c1, if_neg c1]
    by_cases c2 : text at_ = 75
    · rw [if_pos c2, if_pos c2, if_neg (show ¬ text at_ = 80 from fun z => n7 (c2.symm.trans z)), if_neg (show ¬ text at_ = 82 from fun z => n8 (c2.symm.trans z))]
      by_cases c : f_X3_linkable (gVi_kin v) (gVi_people v) = 0
      · rw [if_neg (fun z => (anyOther_iff R).mp z c)]
        have e : f_X3_readEnds (nI at_) eA eB tl bytes (gVi_kin v) (gVi_people v) = (false, nI at_, eA, eB) := by unfold f_X3_readEnds; rw [if_pos c]
        have : f_X3_readKin (nI at_) eA eB v tl bytes = (false, nI at_, eA, eB, v) := by unfold f_X3_readKin; rw [e]; rfl
        rw [this]
        exact ⟨rfl, rfl, fun z => (by cases z)⟩
      · rw [if_pos ((anyOther_iff R).mpr c)]
        obtain ⟨x1, x2, x3⟩ := kin_side T R hat eA eB c
        exact ⟨x1, x2, fun h => by obtain ⟨y1, y2, y3, y4, y5, y6⟩ := x3 h; exact ⟨y1, y2, y3, y4, y5, y6⟩⟩
    · rw [if_neg c2, if_neg c2]
      by_cases c3 : text at_ = 80
      · rw [if_pos c3, if_pos c3, if_pos c3]
        by_cases c : gVi_houses v = 0
        · rw [if_neg (show ¬ (!decide (gVi_houses v = 0) && decide (gVi_people v < 6)) = true from by simp [c])]
          have : f_X3_readPerson (nI at_) v tl bytes = (false, nI at_, v) := by
            unfold f_X3_readPerson
            by_cases d : 6 ≤ gVi_people v
            · rw [if_pos d]
            · rw [if_neg d, if_pos c]
          rw [this]
          exact ⟨rfl, rfl, fun z => (by cases z)⟩
        · by_cases d : gVi_people v < 6
          · rw [if_pos (show (!decide (gVi_houses v = 0) && decide (gVi_people v < 6)) = true from by simp [c, d])]
            obtain ⟨x1, x2, x3⟩ := person_side T R hat d c
            exact ⟨x1, x2, fun h => by obtain ⟨y1, y2, y3, y4, y5, y6⟩ := x3 h; exact ⟨y1, y2, y3, y4, y5, y6⟩⟩
          · rw [if_neg (show ¬ (!decide (gVi_houses v = 0) && decide (gVi_people v < 6)) = true from by simp [d])]
            have : f_X3_readPerson (nI at_) v tl bytes = (false, nI at_, v) := by
              unfold f_X3_readPerson
              rw [if_pos (by omega)]
            rw [this]
            exact ⟨rfl, rfl, fun z => (by cases z)⟩
      · rw [if_neg c3, if_neg c3, if_neg c3]
        by_cases c4 : text at_ = 82
        · rw [if_pos c4, if_pos c4, if_pos c4]
          by_cases c : f_X3_linkable (gVi_paths v) (gVi_houses v) = 0
          · rw [if_neg (fun z => (anyWay_iff R.1).mp z c)]
            have e : f_X3_readEnds (nI at_) eA eB tl bytes (gVi_paths v) (gVi_houses v) = (false, nI at_, eA, eB) := by unfold f_X3_readEnds; rw [if_pos c]
            have : f_X3_readPath (nI at_) eA eB v tl bytes = (false, nI at_, eA, eB, v) := by unfold f_X3_readPath f_X3_readPath_x1 f_X3_readPath_x2; rw [e]; rfl
            rw [this]
            exact ⟨rfl, rfl, fun z => (by cases z)⟩
          · rw [if_pos ((anyWay_iff R.1).mpr c)]
            obtain ⟨x1, x2, x3⟩ := path_side T R hat eA eB c
            exact ⟨x1, x2, fun h => by obtain ⟨y1, y2, y3, y4, y5, y6⟩ := x3 h; exact ⟨y1, y2, y3, y4, y5, y6⟩⟩
        · rw [if_neg c4, if_neg c4, if_neg (show ¬ false = true from by decide)]
          exact ⟨rfl, rfl, fun z => (by cases z)⟩
/-- the whole text from a place on -/
def RA (x : Int32 × Int32 × Int32 × Int32 × TVi) (y : Int32 × Nat × Nat × Nat × Nat × (Nat → Int32) × (Nat → Int32) × (Nat → Int32) × (Nat → Int32)) : Prop :=
  x.1 = y.1 ∧ (x.1 = -9 → gVi_houses x.2.2.2.2 = y.2.2.1 ∧ gVi_people x.2.2.2.2 = y.2.2.2.1 ∧ gVi_pathCount x.2.2.2.2 = y.2.2.2.2.1 ∧ PR x.2.2.2.2 y.2.2.2.2.2.1 y.2.2.2.2.2.2.1 y.2.2.2.2.2.2.2.1 y.2.2.2.2.2.2.2.2)
theorem loop_side (T : TR tl bytes text) : ∀ (r k n at_ : Nat) (eA eB : Int32) (v : TVi) (read readPath readHome readKin : Nat → Int32), PR v read readPath readHome readKin → tl ≤ at_ + r → at_ ≤ tl → tl + 1 ≤ at_ + n →
    RA (f_X3_read_L33 tl bytes r k (nI at_) eA eB v) (f_X9_readAll_L96 tl text n at_ (gVi_houses v) (gVi_people v) (gVi_pathCount v) read readPath readHome readKin) := by
  have htl := T.1
  intro r
  induction r with
  | zero =>
    intro k n at_ eA eB v read readPath readHome readKin R h1 h2 h3
    have e : at_ = tl := by omega
    obtain ⟨n, rfl⟩ : ∃ n', n = n' + 1 := ⟨n - 1, by omega⟩
    simp only [f_X3_read_L33, f_X9_readAll_L96]
    rw [if_pos (by omega)]
    exact ⟨rfl, fun _ => ⟨rfl, rfl, rfl, R⟩⟩
  | succ r ih =>
    intro k n at_ eA eB v read readPath readHome readKin R h1 h2 h3
    obtain ⟨n, rfl⟩ : ∃ n', n = n' + 1 := ⟨n - 1, by omega⟩
    simp only [f_X3_read_L33, f_X9_readAll_L96]
    by_cases e : tl ≤ at_
    · rw [if_pos e, if_pos ((nI_le_ (by omega) (by omega)).mpr e)]
      exact ⟨rfl, fun _ => ⟨rfl, rfl, rfl, R⟩⟩
    · rw [if_neg e, if_neg (fun z => e ((nI_le_ (by omega) (by omega)).mp z))]
      obtain ⟨x1, x2, x3⟩ := part_side T R (at_ := at_) (by omega) eA eB
      rw [← x1]
      by_cases c : (f_X3_readPart (nI at_) eA eB tl bytes v).1 = true
      · rw [if_pos c, if_pos c]
        obtain ⟨y1, y2, y3, y4, y5, y6⟩ := x3 c
        rw [x2, ← y3, ← y4, ← y5]
        exact ih _ _ _ _ _ _ _ _ _ _ y6 (by omega) y2 (by omega)
      · rw [if_neg c, if_neg c]
        have hb2 := (readPart_b (text := text) (kin := readKin) (path := readPath) (read := read) (home := readHome) (rw_ := gVi_pathCount v) (show at_ < tl by omega) htl R.1.hH R.1.hP).2.1
        refine ⟨x2, fun z => ?_⟩
        have z : (f_X3_readPart (nI at_) eA eB tl bytes v).2.1 = -9 := z
        rw [x2] at z
        exact absurd z (nI9 (by omega))
theorem cell0 {k : Nat} (hk : k < 8) : f_X8_cell 0 (nI k) = 0 := by
  rw [cell_cn, cn_zero k hk]; rfl
theorem PR_zero {read readPath readHome readKin : Nat → Int32} (h1 : ∀ i, i < 43 → read i = 0) (h2 : ∀ i, i < 16 → readPath i = 0) (h3 : ∀ i, i < 6 → readHome i = 0) (h4 : ∀ i, i < 6 → readKin i = 0) : PR zVi read readPath readHome readKin := by
  have e : ∀ k, k < 8 → f_X8_cell 0 (nI k) = 0 := fun k hk => cell0 hk
  have e2 : ∀ k, k < 8 → ∀ j, hb (f_X8_cell 0 (nI k)) j = false := fun k hk j => by rw [e k hk, hb_zero]
  refine ⟨⟨by decide, by decide, fun a ha b hb_ => ?_, fun a ha b h => ?_, fun a ha b h => ?_, fun p hp => ?_, fun p hp => ?_, fun p hp => ?_, fun p hp => ?_, fun a ha => ?_⟩, ⟨?_, fun h hh => ?_, fun h hh => ?_, fun h hh => ?_, fun p hp => ?_, fun p hp => ?_, fun p hp => ?_, fun p hp => ?_, fun p hp => ?_⟩, fun p _ => ?_, fun h _ hh => ?_, fun h _ => ?_, fun p hp j h => ?_, fun a ha b hb_ => ?_⟩
  · rw [h2 _ (by omega)]
    show (0 : Int32) = if hb (f_X8_cell 0 (nI a)) b = true then 2 else if hb (f_X8_cell 0 (nI a)) b = true then 1 else 0
    rw [e2 a (by omega)]; rfl
  · have h : hb (f_X8_cell 0 (nI a)) b = true := h
    rw [e2 a (by omega)] at h; cases h
  · have h : hb (f_X8_cell 0 (nI a)) b = true := h
    rw [e2 a (by omega)] at h; cases h
  · rw [h3 p hp]; exact (e p (by omega)).symm
  · have : cn (gVi_homes zVi) p = 0 := cn_zero p (by omega)
    omega
  · exact absurd hp (Nat.not_lt_zero p)
  · rw [h4 p hp]; exact (e p (by omega)).symm
  · exact e2 a (by omega) a
  · exact h1 0 (by omega)
  · rw [h1 _ (by omega)]; exact (e h (by omega)).symm
  · rw [h1 _ (by omega)]
    unfold f_X2_boltOf
    rw [bg_barred, bg_bolted, has_hb (by omega)]
    show (0 : Int32) = if hb 0 h = true then 2 else _
    rw [hb_zero, has_hb (by omega)]
    show (0 : Int32) = if false = true then 2 else bI (if hb 0 h = true then true else false)
    rw [hb_zero]; rfl
  · exact h1 _ (by omega)
  · rw [h1 _ (by omega)]
    show (0 : Int32) = bI (hb 0 p)
    rw [hb_zero]; rfl
  · exact h1 _ (by omega)
  · exact h1 _ (by omega)
  · exact h1 _ (by omega)
  · rw [h1 _ (by omega)]; exact (if_neg (Nat.not_lt_zero p)).symm
  · exact hb_zero p
  · exact cn_zero h (by omega)
  · exact ⟨hb_zero h, hb_zero h⟩
  · have h : hb (f_X8_cell 0 (nI p)) j = true := h
    rw [e2 p (by omega)] at h; cases h
  · show hb (f_X8_cell 0 (nI a)) b = hb (f_X8_cell 0 (nI b)) a
    rw [e2 a (by omega), e2 b (by omega)]
theorem L17_zero : ∀ (r k : Nat) (a b c d : Nat → Int32), (∀ i, i < k → a i = 0) → (∀ i, i < 16 → i < k → b i = 0) → (∀ i, i < 6 → i < k → c i = 0) → (∀ i, i < 6 → i < k → d i = 0) →
    (∀ i, i < k + r → (f_X9_readAll_L17 r k a b c d).1 i = 0) ∧ (∀ i, i < 16 → i < k + r → (f_X9_readAll_L17 r k a b c d).2.1 i = 0) ∧ (∀ i, i < 6 → i < k + r → (f_X9_readAll_L17 r k a b c d).2.2.1 i = 0) ∧ (∀ i, i < 6 → i < k + r → (f_X9_readAll_L17 r k a b c d).2.2.2 i = 0) := by
  have hu : ∀ (m k : Nat) (b : Nat → Int32), 0 < m → (∀ i, i < m → i < k → b i = 0) → ∀ i, i < m → i < k + 1 → upd b (k % m) 0 i = 0 := fun m k b hm h i h1 h2 => by
    rw [upd_at]
    by_cases e : i = k % m
    · rw [if_pos e]
    · rw [if_neg e]
      by_cases e2 : i = k
      · rw [e2, Nat.mod_eq_of_lt (by omega)] at e; exact absurd rfl e
      · exact h i h1 (by omega)
  intro r
  induction r with
  | zero => intro k a b c d h1 h2 h3 h4; exact ⟨h1, h2, h3, h4⟩
  | succ r ih =>
    intro k a b c d h1 h2 h3 h4
    simp only [f_X9_readAll_L17]
    rw [show k + (r + 1) = k + 1 + r by omega]
    refine ih (k + 1) _ _ _ _ (fun i hi => ?_) (hu 16 k b (by omega) h2) (hu 6 k c (by omega) h3) (hu 6 k d (by omega) h4)
    rw [upd_at]
    by_cases e : i = k
    · rw [if_pos e]
    · rw [if_neg e]; exact h1 i (by omega)
theorem readAll_side (T : TR tl bytes text) (read readPath readHome readKin : Nat → Int32) : RA (f_X3_read 0 (-9) (-9) tl bytes zVi) (f_X9_readAll tl read readPath readHome readKin text) := by
  have htl := T.1
  obtain ⟨z1, z2, z3, z4⟩ := L17_zero 43 0 read readPath readHome readKin (fun i h => by omega) (fun i _ h => by omega) (fun i _ h => by omega) (fun i _ h => by omega)
  have P0 := PR_zero (fun i h => z1 i (by omega)) (fun i h => z2 i h (by omega)) (fun i h => z3 i h (by omega)) (fun i h => z4 i h (by omega))
  unfold f_X3_read f_X9_readAll
  have hno : ¬ (0 : Int32) = -9 := by decide
  by_cases e : tl = 0
  · have eb : f_X6_byteAt tl bytes 0 = -9 := byte_out (at_ := 0) T (by omega) (by omega)
    rw [if_pos e, eb, if_neg (by decide)]
    exact ⟨rfl, fun z => absurd z hno⟩
  · have eb : f_X6_byteAt tl bytes 0 = text 0 := (byte_in (at_ := 0) T (by omega)).1
    rw [if_neg e, eb]
    by_cases c : text 0 = 86
    · rw [if_pos c, if_pos c]
      exact loop_side T 96 0 fuelT 1 (-9) (-9) zVi _ _ _ _ P0 (by omega) (by omega) (by unfold fuelT; omega)
    · rw [if_neg c, if_neg c]
      exact ⟨rfl, fun z => absurd z hno⟩
end LOOP
section VILL
variable {kS : Int32} {tl : Nat} {bytes : Nat → Int32} {v : TVi} {now : TN} {st ct : Nat} {bs ss : Nat → TN} {sc : Nat} {kinds moons places values path home kin a was kept isKept text sight : Nat → Int32}
theorem q_fault (R : RR kS tl bytes v now st ct bs ss sc kinds moons places values path home kin a was kept isKept text sight) (read readPath readHome readKin : Nat → Int32) : f_X8_fault tl bytes = (f_X9_fault tl read readPath readHome readKin text).1 :=
  (readAll_side R.2.2.2.2.2 read readPath readHome readKin).1
theorem L43_cp (tl : Nat) (read readPath readHome readKin text : Nat → Int32) : ∀ (r k : Nat) (a b c d : Nat → Int32), (∀ i, i < k → a i = (f_X9_readAll tl read readPath readHome readKin text).2.2.2.2.2.1 i) → (∀ i, i < 16 → i < k → b i = (f_X9_readAll tl read readPath readHome readKin text).2.2.2.2.2.2.1 i) → (∀ i, i < 6 → i < k → c i = (f_X9_readAll tl read readPath readHome readKin text).2.2.2.2.2.2.2.1 i) → (∀ i, i < 6 → i < k → d i = (f_X9_readAll tl read readPath readHome readKin text).2.2.2.2.2.2.2.2 i) →
    (∀ i, i < k + r → (f_X9_village_L43 tl read readPath readHome readKin text r k a b c d).1 i = (f_X9_readAll tl read readPath readHome readKin text).2.2.2.2.2.1 i) ∧ (∀ i, i < 16 → i < k + r → (f_X9_village_L43 tl read readPath readHome readKin text r k a b c d).2.1 i = (f_X9_readAll tl read readPath readHome readKin text).2.2.2.2.2.2.1 i) ∧ (∀ i, i < 6 → i < k + r → (f_X9_village_L43 tl read readPath readHome readKin text r k a b c d).2.2.1 i = (f_X9_readAll tl read readPath readHome readKin text).2.2.2.2.2.2.2.1 i) ∧ (∀ i, i < 6 → i < k + r → (f_X9_village_L43 tl read readPath readHome readKin text r k a b c d).2.2.2 i = (f_X9_readAll tl read readPath readHome readKin text).2.2.2.2.2.2.2.2 i) := by
  have hu : ∀ (m k : Nat) (b x : Nat → Int32), 0 < m → (∀ i, i < m → i < k → b i = x i) → ∀ i, i < m → i < k + 1 → upd b (k % m) (x (k % m)) i = x i := fun m k b x hm h i h1 h2 => by
    rw [upd_at]
    by_cases e : i = k % m
    · rw [if_pos e, e]
    · rw [if_neg e]
      by_cases e2 : i = k
      · rw [e2, Nat.mod_eq_of_lt (by omega)] at e; exact absurd rfl e
      · exact h i h1 (by omega)
  intro r
  induction r with
  | zero => intro k a b c d h1 h2 h3 h4; exact ⟨h1, h2, h3, h4⟩
  | succ r ih =>
    intro k a b c d h1 h2 h3 h4
    simp only [f_X9_village_L43]
    rw [show k + (r + 1) = k + 1 + r by omega]
    refine ih (k + 1) _ _ _ _ (fun i hi => ?_) (hu 16 k b _ (by omega) h2) (hu 6 k c _ (by omega) h3) (hu 6 k d _ (by omega) h4)
    rw [upd_at]
    by_cases e : i = k
    · rw [if_pos e, e]
    · rw [if_neg e]; exact h1 i (by omega)
theorem PR.congr {v : TVi} {r p h k r' p' h' k' : Nat → Int32} (R : PR v r p h k) (e1 : ∀ i, i < 43 → r' i = r i) (e2 : ∀ i, i < 16 → p' i = p i) (e3 : ∀ i, i < 6 → h' i = h i) (e4 : ∀ i, i < 6 → k' i = k i) : PR v r' p' h' k' := by
  obtain ⟨⟨w1, w2, w3, w4, w5, w6, w7, w8, w9, w10⟩, ⟨r0, r1, r2, r3, r4, r5, r6, r7, r8⟩, i⟩ := R
  exact ⟨⟨w1, w2, fun a ha b hb_ => (e2 _ (by omega)).trans (w3 a ha b hb_), w4, w5, fun p hp => (e3 _ hp).trans (w6 p hp), w7, w8, fun p hp => (e4 _ hp).trans (w9 p hp), w10⟩, ⟨(e1 _ (by omega)).trans r0, fun h hh => (e1 _ (by omega)).trans (r1 h hh), fun h hh => (e1 _ (by omega)).trans (r2 h hh), fun h hh => (e1 _ (by omega)).trans (r3 h hh), fun p hp => (e1 _ (by omega)).trans (r4 p hp), fun p hp => (e1 _ (by omega)).trans (r5 p hp), fun p hp => (e1 _ (by omega)).trans (r6 p hp), fun p hp => (e1 _ (by omega)).trans (r7 p hp), fun p hp => (e1 _ (by omega)).trans (r8 p hp)⟩, i⟩
theorem q_village (R : RR kS tl bytes v now st ct bs ss sc kinds moons places values path home kin a was kept isKept text sight) (read readPath readHome readKin : Nat → Int32) :
    f_X8_village tl bytes = (f_X9_village (gVi_houses v) (gVi_people v) (gVi_pathCount v) ct tl read readPath readHome readKin text a path home kin isKept).1 ∧
    (f_X8_fault tl bytes = -9 → (f_X9_village (gVi_houses v) (gVi_people v) (gVi_pathCount v) ct tl read readPath readHome readKin text a path home kin isKept).2.2.1 = gVi_houses (f_X3_read 0 (-9) (-9) tl bytes zVi).2.2.2.2 ∧ (f_X9_village (gVi_houses v) (gVi_people v) (gVi_pathCount v) ct tl read readPath readHome readKin text a path home kin isKept).2.2.2.1 = gVi_people (f_X3_read 0 (-9) (-9) tl bytes zVi).2.2.2.2 ∧ (f_X9_village (gVi_houses v) (gVi_people v) (gVi_pathCount v) ct tl read readPath readHome readKin text a path home kin isKept).2.2.2.2.1 = gVi_pathCount (f_X3_read 0 (-9) (-9) tl bytes zVi).2.2.2.2 ∧ (f_X9_village (gVi_houses v) (gVi_people v) (gVi_pathCount v) ct tl read readPath readHome readKin text a path home kin isKept).2.2.2.2.2.1 = 0 ∧
      RR 0 tl bytes (f_X3_read 0 (-9) (-9) tl bytes zVi).2.2.2.2 (f_X2_begin now (f_X3_read 0 (-9) (-9) tl bytes zVi).2.2.2.2) st 0 bs ss sc kinds moons places values
        (f_X9_village (gVi_houses v) (gVi_people v) (gVi_pathCount v) ct tl read readPath readHome readKin text a path home kin isKept).2.2.2.2.2.2.2.2.2.2.2.2.2.2.2.1
        (f_X9_village (gVi_houses v) (gVi_people v) (gVi_pathCount v) ct tl read readPath readHome readKin text a path home kin isKept).2.2.2.2.2.2.2.2.2.2.2.2.2.2.2.2.1
        (f_X9_village (gVi_houses v) (gVi_people v) (gVi_pathCount v) ct tl read readPath readHome readKin text a path home kin isKept).2.2.2.2.2.2.2.2.2.2.2.2.2.2.2.2.2.1
        (f_X9_village (gVi_houses v) (gVi_people v) (gVi_pathCount v) ct tl read readPath readHome readKin text a path home kin isKept).2.2.2.2.2.2.2.2.2.2.2.2.2.2.1
        was kept (f_X9_village (gVi_houses v) (gVi_people v) (gVi_pathCount v) ct tl read readPath readHome readKin text a path home kin isKept).2.2.2.2.2.2.2.2.2.2.2.2.2.2.2.2.2.2 text sight) ∧
    (¬ f_X8_fault tl bytes = -9 → (f_X9_village (gVi_houses v) (gVi_people v) (gVi_pathCount v) ct tl read readPath readHome readKin text a path home kin isKept).2.2.1 = gVi_houses v ∧ (f_X9_village (gVi_houses v) (gVi_people v) (gVi_pathCount v) ct tl read readPath readHome readKin text a path home kin isKept).2.2.2.1 = gVi_people v ∧ (f_X9_village (gVi_houses v) (gVi_people v) (gVi_pathCount v) ct tl read readPath readHome readKin text a path home kin isKept).2.2.2.2.1 = gVi_pathCount v ∧ (f_X9_village (gVi_houses v) (gVi_people v) (gVi_pathCount v) ct tl read readPath readHome readKin text a path home kin isKept).2.2.2.2.2.1 = ct ∧
      (f_X9_village (gVi_houses v) (gVi_people v) (gVi_pathCount v) ct tl read readPath readHome readKin text a path home kin isKept).2.2.2.2.2.2.2.2.2.2.2.2.2.2 = (a, path, home, kin, isKept)) := by
  obtain ⟨W, N, A, K, S, T⟩ := R
  obtain ⟨x1, x2⟩ := readAll_side T read readPath readHome readKin
  unfold f_X8_village f_X8_fault f_X9_village
  by_cases c : (f_X3_read 0 (-9) (-9) tl bytes zVi).1 = -9
  · obtain ⟨y1, y2, y3, P⟩ := x2 c
    rw [if_pos c, if_pos (x1.symm.trans c)]
    obtain ⟨z1, z2, z3, z4⟩ := L43_cp tl read readPath readHome readKin text 43 0 a path home kin (fun i h => by omega) (fun i _ h => by omega) (fun i _ h => by omega) (fun i _ h => by omega)
    have P2 := P.congr (fun i h => z1 i (by omega)) (fun i h => z2 i h (by omega)) (fun i h => z3 i h (by omega)) (fun i h => z4 i h (by omega))
    refine ⟨?_, fun _ => ⟨y1.symm, y2.symm, y3.symm, rfl, P2.1, P2.NN, ⟨A.1, by omega, fun k hk => absurd hk (Nat.not_lt_zero k)⟩, fun s hs => ?_, S, T⟩, fun z => absurd c z⟩
    · rw [y1, y2, show (10 : Int32) = nI 10 from rfl, pk_mul, nI_add]
    · have e : hb 0 s = false := hb_zero s
      refine ⟨?_, fun z => by rw [e] at z; cases z⟩
      rw [e]
      rcases (show s = 0 ∨ s = 1 by omega) with rfl | rfl <;> rfl
  · rw [if_neg c, if_neg (fun z => c (x1.trans z))]
    exact ⟨rfl, fun z => absurd z c, fun _ => ⟨rfl, rfl, rfl, rfl, rfl⟩⟩
end VILL
