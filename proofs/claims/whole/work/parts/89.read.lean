/-! the reader's loop -/
section LOOP
variable {tl : Nat} {bytes text : Nat → Int32} {v : TVi} {read readPath readHome readKin : Nat → Int32}
theorem rp_x1 (at_ H P : Nat) : f_X9_readPart_x1 at_ H P text readKin readPath = (if text at_ = 72 then decide (H < 4) else if text at_ = 75 then f_X9_hasAnyOther P readKin else if text at_ = 80 then (!decide (H = 0) && decide (P < 6)) else if text at_ = 82 then f_X9_hasAnyWay H readPath else false) := by
  unfold f_X9_readPart_x1
  generalize text at_ = x
  have n1 : ¬ (72 : Int32) = 75 := by decide
  have n2 : ¬ (72 : Int32) = 80 := by decide
  have n3 : ¬ (72 : Int32) = 82 := by decide
  have n4 : ¬ (75 : Int32) = 80 := by decide
  have n5 : ¬ (75 : Int32) = 82 := by decide
  have n6 : ¬ (80 : Int32) = 82 := by decide
  have n7 : ¬ (82 : Int32) = 80 := by decide
  have n8 : ¬ (82 : Int32) = 75 := by decide
  have n9 : ¬ (80 : Int32) = 75 := by decide
  have m1 : ¬ (75 : Int32) = 72 := by decide
  have m2 : ¬ (80 : Int32) = 72 := by decide
  have m3 : ¬ (82 : Int32) = 72 := by decide
  generalize f_X9_hasAnyOther P readKin = o
  generalize f_X9_hasAnyWay H readPath = w
  by_cases c1 : x = 72
  · subst c1
    by_cases c : H < 4 <;> simp only [n1, n2, n3, c, if_true, if_false, decide_true, decide_false]
  · by_cases c2 : x = 75
    · subst c2
      cases o <;> simp only [m1, n4, n5, if_true, if_false, Bool.false_eq_true]
    · by_cases c3 : x = 80
      · subst c3
        by_cases c : H = 0
        · simp only [m2, n6, n9, c, if_true, if_false, decide_true, Bool.not_true, Bool.false_and]
        · by_cases d : P < 6 <;> simp only [m2, n6, n9, c, d, if_true, if_false, decide_true, decide_false, Bool.not_false, Bool.true_and]
      · by_cases c4 : x = 82
        · subst c4
          cases w <;> simp only [m3, n7, n8, if_true, if_false, Bool.false_eq_true]
        · simp only [c1, c2, c3, c4, if_false]
theorem part_side (T : TR tl bytes text) (R : PR v read readPath readHome readKin) {at_ : Nat} (hat : at_ < tl) (eA eB : Int32) :
    (f_X3_readPart (nI at_) eA eB tl bytes v).1 = (f_X9_readPart tl at_ (gVi_houses v) (gVi_people v) (gVi_pathCount v) text readKin readPath read readHome).1 ∧ (f_X3_readPart (nI at_) eA eB tl bytes v).2.1 = nI (f_X9_readPart tl at_ (gVi_houses v) (gVi_people v) (gVi_pathCount v) text readKin readPath read readHome).2.1 ∧
    ((f_X3_readPart (nI at_) eA eB tl bytes v).1 = true → at_ < (f_X9_readPart tl at_ (gVi_houses v) (gVi_people v) (gVi_pathCount v) text readKin readPath read readHome).2.1 ∧ (f_X9_readPart tl at_ (gVi_houses v) (gVi_people v) (gVi_pathCount v) text readKin readPath read readHome).2.1 ≤ tl ∧ gVi_houses (f_X3_readPart (nI at_) eA eB tl bytes v).2.2.2.2 = (f_X9_readPart tl at_ (gVi_houses v) (gVi_people v) (gVi_pathCount v) text readKin readPath read readHome).2.2.1 ∧ gVi_people (f_X3_readPart (nI at_) eA eB tl bytes v).2.2.2.2 = (f_X9_readPart tl at_ (gVi_houses v) (gVi_people v) (gVi_pathCount v) text readKin readPath read readHome).2.2.2.1 ∧ gVi_pathCount (f_X3_readPart (nI at_) eA eB tl bytes v).2.2.2.2 = (f_X9_readPart tl at_ (gVi_houses v) (gVi_people v) (gVi_pathCount v) text readKin readPath read readHome).2.2.2.2.1 ∧ PR (f_X3_readPart (nI at_) eA eB tl bytes v).2.2.2.2 (f_X9_readPart tl at_ (gVi_houses v) (gVi_people v) (gVi_pathCount v) text readKin readPath read readHome).2.2.2.2.2.2.2.1 (f_X9_readPart tl at_ (gVi_houses v) (gVi_people v) (gVi_pathCount v) text readKin readPath read readHome).2.2.2.2.2.2.1 (f_X9_readPart tl at_ (gVi_houses v) (gVi_people v) (gVi_pathCount v) text readKin readPath read readHome).2.2.2.2.2.2.2.2 (f_X9_readPart tl at_ (gVi_houses v) (gVi_people v) (gVi_pathCount v) text readKin readPath read readHome).2.2.2.2.2.1) := by
  have e0 : f_X6_byteAt tl bytes (nI at_) = text at_ := (byte_in T hat).1
  have n1 : ¬ (75 : Int32) = 72 := by decide
  have n2 : ¬ (80 : Int32) = 72 := by decide
  have n3 : ¬ (82 : Int32) = 72 := by decide
  have n4 : ¬ (80 : Int32) = 75 := by decide
  have n5 : ¬ (82 : Int32) = 75 := by decide
  have n6 : ¬ (82 : Int32) = 80 := by decide
  have n7 : ¬ (75 : Int32) = 80 := by decide
  have n8 : ¬ (75 : Int32) = 82 := by decide
  unfold f_X3_readPart f_X9_readPart
  rw [e0, rp_x1]
  by_cases c1 : text at_ = 72
  · rw [if_pos c1, if_pos c1, if_pos c1]
    by_cases c : gVi_houses v < 4
    · rw [if_pos (decide_eq_true c)]
      obtain ⟨x1, x2, x3⟩ := house_side T R hat c
      exact ⟨x1, x2, fun h => by obtain ⟨y1, y2, y3, y4, y5, y6⟩ := x3 h; exact ⟨y1, y2, y3, y4, y5, y6⟩⟩
    · rw [if_neg (show ¬ decide (gVi_houses v < 4) = true from by simp [c])]
      have : f_X3_readHouse (nI at_) v tl bytes = (false, nI at_, v) := by unfold f_X3_readHouse; rw [if_neg c]
      rw [this]
      exact ⟨rfl, rfl, fun z => (by cases z)⟩
  · rw [if_neg c1, if_neg c1, if_neg c1]
    by_cases c2 : text at_ = 75
    · rw [if_pos c2, if_pos c2, if_neg (show ¬ text at_ = 80 from fun z => n7 (c2.symm.trans z)), if_neg (show ¬ text at_ = 82 from fun z => n8 (c2.symm.trans z))]
      by_cases c : f_X3_linkable (gVi_kin v) (gVi_people v) = 0
      · rw [if_neg (fun z => (anyOther_iff R).mp z c)]
        have e : f_X3_readEnds (nI at_) eA eB tl bytes (gVi_kin v) (gVi_people v) = (false, nI at_, eA, eB) := by unfold f_X3_readEnds; rw [if_pos c]
        have : f_X3_readKin (nI at_) eA eB v tl bytes = (false, nI at_, eA, eB, v) := by unfold f_X3_readKin; rw [e]; rfl
        rw [this]
        exact ⟨rfl, rfl, fun z => (by cases z)⟩
      · rw [if_pos ((anyOther_iff R).mpr c)]
        obtain ⟨x1, x2, x3⟩ := kin_side T R hat eA eB c
        exact ⟨x1, x2, fun h => by obtain ⟨y1, y2, y3, y4, y5, y6⟩ := x3 h; exact ⟨y1, y2, y3, y4, y5, y6⟩⟩
    · rw [if_neg c2, if_neg c2]
      by_cases c3 : text at_ = 80
      · rw [if_pos c3, if_pos c3, if_pos c3]
        by_cases c : gVi_houses v = 0
        · rw [if_neg (show ¬ (!decide (gVi_houses v = 0) && decide (gVi_people v < 6)) = true from by simp [c])]
          have : f_X3_readPerson (nI at_) v tl bytes = (false, nI at_, v) := by
            unfold f_X3_readPerson
            by_cases d : 6 ≤ gVi_people v
            · rw [if_pos d]
            · rw [if_neg d, if_pos c]
          rw [this]
          exact ⟨rfl, rfl, fun z => (by cases z)⟩
        · by_cases d : gVi_people v < 6
          · rw [if_pos (show (!decide (gVi_houses v = 0) && decide (gVi_people v < 6)) = true from by simp [c, d])]
            obtain ⟨x1, x2, x3⟩ := person_side T R hat d c
            exact ⟨x1, x2, fun h => by obtain ⟨y1, y2, y3, y4, y5, y6⟩ := x3 h; exact ⟨y1, y2, y3, y4, y5, y6⟩⟩
          · rw [if_neg (show ¬ (!decide (gVi_houses v = 0) && decide (gVi_people v < 6)) = true from by simp [d])]
            have : f_X3_readPerson (nI at_) v tl bytes = (false, nI at_, v) := by
              unfold f_X3_readPerson
              rw [if_pos (by omega)]
            rw [this]
            exact ⟨rfl, rfl, fun z => (by cases z)⟩
      · rw [if_neg c3, if_neg c3, if_neg c3]
        by_cases c4 : text at_ = 82
        · rw [if_pos c4, if_pos c4, if_pos c4]
          by_cases c : f_X3_linkable (gVi_paths v) (gVi_houses v) = 0
          · rw [if_neg (fun z => (anyWay_iff R.1).mp z c)]
            have e : f_X3_readEnds (nI at_) eA eB tl bytes (gVi_paths v) (gVi_houses v) = (false, nI at_, eA, eB) := by unfold f_X3_readEnds; rw [if_pos c]
            have : f_X3_readPath (nI at_) eA eB v tl bytes = (false, nI at_, eA, eB, v) := by unfold f_X3_readPath f_X3_readPath_x1 f_X3_readPath_x2; rw [e]; rfl
            rw [this]
            exact ⟨rfl, rfl, fun z => (by cases z)⟩
          · rw [if_pos ((anyWay_iff R.1).mpr c)]
            obtain ⟨x1, x2, x3⟩ := path_side T R hat eA eB c
            exact ⟨x1, x2, fun h => by obtain ⟨y1, y2, y3, y4, y5, y6⟩ := x3 h; exact ⟨y1, y2, y3, y4, y5, y6⟩⟩
        · rw [if_neg c4, if_neg c4, if_neg (show ¬ false = true from by decide)]
          exact ⟨rfl, rfl, fun z => (by cases z)⟩
/-- the whole text from a place on -/
def RA (x : Int32 × Int32 × Int32 × Int32 × TVi) (y : Int32 × Nat × Nat × Nat × Nat × (Nat → Int32) × (Nat → Int32) × (Nat → Int32) × (Nat → Int32)) : Prop :=
  x.1 = y.1 ∧ (x.1 = -9 → gVi_houses x.2.2.2.2 = y.2.2.1 ∧ gVi_people x.2.2.2.2 = y.2.2.2.1 ∧ gVi_pathCount x.2.2.2.2 = y.2.2.2.2.1 ∧ PR x.2.2.2.2 y.2.2.2.2.2.1 y.2.2.2.2.2.2.1 y.2.2.2.2.2.2.2.1 y.2.2.2.2.2.2.2.2)
theorem loop_side (T : TR tl bytes text) : ∀ (r k n at_ : Nat) (eA eB : Int32) (v : TVi) (read readPath readHome readKin : Nat → Int32), PR v read readPath readHome readKin → tl ≤ at_ + r → at_ ≤ tl → tl + 1 ≤ at_ + n →
    RA (f_X3_read_L33 tl bytes r k (nI at_) eA eB v) (f_X9_readAll_L96 tl text n at_ (gVi_houses v) (gVi_people v) (gVi_pathCount v) read readPath readHome readKin) := by
  have htl := T.1
  intro r
  induction r with
  | zero =>
    intro k n at_ eA eB v read readPath readHome readKin R h1 h2 h3
    have e : at_ = tl := by omega
    obtain ⟨n, rfl⟩ : ∃ n', n = n' + 1 := ⟨n - 1, by omega⟩
    simp only [f_X3_read_L33, f_X9_readAll_L96]
    rw [if_pos (by omega)]
    exact ⟨rfl, fun _ => ⟨rfl, rfl, rfl, R⟩⟩
  | succ r ih =>
    intro k n at_ eA eB v read readPath readHome readKin R h1 h2 h3
    obtain ⟨n, rfl⟩ : ∃ n', n = n' + 1 := ⟨n - 1, by omega⟩
    simp only [f_X3_read_L33, f_X9_readAll_L96]
    by_cases e : tl ≤ at_
    · rw [if_pos e, if_pos ((nI_le_ (by omega) (by omega)).mpr e)]
      exact ⟨rfl, fun _ => ⟨rfl, rfl, rfl, R⟩⟩
    · rw [if_neg e, if_neg (fun z => e ((nI_le_ (by omega) (by omega)).mp z))]
      obtain ⟨x1, x2, x3⟩ := part_side T R (at_ := at_) (by omega) eA eB
      rw [← x1]
      by_cases c : (f_X3_readPart (nI at_) eA eB tl bytes v).1 = true
      · rw [if_pos c, if_pos c]
        obtain ⟨y1, y2, y3, y4, y5, y6⟩ := x3 c
        rw [x2, ← y3, ← y4, ← y5]
        exact ih _ _ _ _ _ _ _ _ _ _ y6 (by omega) y2 (by omega)
      · rw [if_neg c, if_neg c]
        refine ⟨x2, fun z => ?_⟩
        sorry
end LOOP
