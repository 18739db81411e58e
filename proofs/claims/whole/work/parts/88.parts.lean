/-! the reader's parts, side by side -/
section SIDE
variable {tl : Nat} {bytes text : Nat → Int32} {v : TVi} {read readPath readHome readKin : Nat → Int32}
theorem nn9 : ¬ (0 : Int32) ≤ -9 := by decide
theorem nn0 {c : Nat} (h : c < 2147483648) : (0 : Int32) ≤ nI c := Int32.not_lt.mp (nI_neg h)
theorem hb10 : ∀ c, c ≤ 9 → hb (f_X8_below 10) c = true := by decide +kernel
theorem hb3 : ∀ c, c ≤ 9 → hb (f_X8_below 3) c = decide (c ≤ 2) := by decide +kernel
theorem hb2 : ∀ c, c ≤ 9 → hb (f_X8_below 2) c = decide (c ≤ 1) := by decide +kernel
theorem dig_back {at_ c : Nat} (hc : c ≤ 9) (h : text at_ = nI (48 + c)) : text (at_ + 1 - 1) - 48 = nI c := by
  rw [Nat.add_sub_cancel, h, show (nI (48 + c) - 48 : Int32) = nI (48 + c - 48) from pk_sub (b := 48) (by omega), Nat.add_sub_cancel_left]
theorem house_side (T : TR tl bytes text) (R : PR v read readPath readHome readKin) {at_ : Nat} (hat : at_ < tl) (h4 : gVi_houses v < 4) :
    (f_X3_readHouse (nI at_) v tl bytes).1 = (f_X9_readHouse tl (at_ + 1) (gVi_houses v) text read).1 ∧ (f_X3_readHouse (nI at_) v tl bytes).2.1 = nI (f_X9_readHouse tl (at_ + 1) (gVi_houses v) text read).2.1 ∧
    ((f_X3_readHouse (nI at_) v tl bytes).1 = true → at_ < (f_X9_readHouse tl (at_ + 1) (gVi_houses v) text read).2.1 ∧ (f_X9_readHouse tl (at_ + 1) (gVi_houses v) text read).2.1 ≤ tl ∧ gVi_houses (f_X3_readHouse (nI at_) v tl bytes).2.2 = (f_X9_readHouse tl (at_ + 1) (gVi_houses v) text read).2.2.1 ∧ gVi_people (f_X3_readHouse (nI at_) v tl bytes).2.2 = gVi_people v ∧ gVi_pathCount (f_X3_readHouse (nI at_) v tl bytes).2.2 = gVi_pathCount v ∧ PR (f_X3_readHouse (nI at_) v tl bytes).2.2 (f_X9_readHouse tl (at_ + 1) (gVi_houses v) text read).2.2.2 readPath readHome readKin) := by
  have htl := T.1
  unfold f_X3_readHouse f_X9_readHouse
  unfold f_X3_readHouse_x1
  rw [if_pos h4, nI_add1]
  rcases fig T (at_ := at_ + 1) (by omega) with ⟨c1, hc1, l1, t1, p1, g1⟩ | ⟨p1, g1⟩
  · rw [g1, if_pos (hb10 c1 hc1)]
    dsimp only
    rw [if_pos (nn0 (by omega)), if_pos (nn0 (by omega)), takes_c hc1 p1 (fun z => by have := (nI_lt_ (a := 9) (b := c1) (by omega) (by omega)).mp z; omega)]
    dsimp only
    rw [if_pos rfl]
    rcases fig T (at_ := at_ + 1 + 1) (by omega) with ⟨c2, hc2, l2, t2, p2, g2⟩ | ⟨p2, g2⟩
    · rw [g2, hb3 c2 hc2]
      by_cases c : c2 ≤ 2
      · rw [if_pos (decide_eq_true c)]
        dsimp only
        rw [if_pos (nn0 (by omega)), takes_c hc2 p2 (fun z => by have := (nI_lt_ (a := 2) (b := c2) (by omega) (by omega)).mp z; omega)]
        dsimp only
        rw [if_pos rfl]
        dsimp only
        refine ⟨rfl, rfl, fun _ => ⟨by omega, by omega, rfl, rfl, rfl, ?_⟩⟩
        rw [dig_back hc1 t1, dig_back hc2 t2]
        exact addHouse_PR R h4 hc1 c
      · rw [if_neg (show ¬ decide (c2 ≤ 2) = true from by simp [c])]
        dsimp only
        rw [if_neg nn9, takes_n (m := 2) (Or.inr ⟨c2, hc2, p2, (nI_lt_ (a := 2) (b := c2) (by omega) (by omega)).mpr (by omega)⟩)]
        dsimp only
        rw [if_neg (by decide)]
        exact ⟨rfl, rfl, fun z => by cases z⟩
    · rw [g2]
      dsimp only
      rw [if_neg nn9, takes_n (Or.inl p2)]
      dsimp only
      rw [if_neg (by decide)]
      exact ⟨rfl, rfl, fun z => by cases z⟩
  · rw [g1]
    dsimp only
    rw [if_neg nn9, if_neg nn9, if_neg nn9, takes_n (Or.inl p1)]
    dsimp only
    rw [if_neg (by decide)]
    exact ⟨rfl, rfl, fun z => by cases z⟩
theorem person_side (T : TR tl bytes text) (R : PR v read readPath readHome readKin) {at_ : Nat} (hat : at_ < tl) (h6 : gVi_people v < 6) (h0 : ¬ gVi_houses v = 0) :
    (f_X3_readPerson (nI at_) v tl bytes).1 = (f_X9_readPerson tl (at_ + 1) (gVi_houses v) (gVi_people v) text readHome read).1 ∧ (f_X3_readPerson (nI at_) v tl bytes).2.1 = nI (f_X9_readPerson tl (at_ + 1) (gVi_houses v) (gVi_people v) text readHome read).2.1 ∧
    ((f_X3_readPerson (nI at_) v tl bytes).1 = true → at_ < (f_X9_readPerson tl (at_ + 1) (gVi_houses v) (gVi_people v) text readHome read).2.1 ∧ (f_X9_readPerson tl (at_ + 1) (gVi_houses v) (gVi_people v) text readHome read).2.1 ≤ tl ∧ gVi_houses (f_X3_readPerson (nI at_) v tl bytes).2.2 = gVi_houses v ∧ gVi_people (f_X3_readPerson (nI at_) v tl bytes).2.2 = (f_X9_readPerson tl (at_ + 1) (gVi_houses v) (gVi_people v) text readHome read).2.2.1 ∧ gVi_pathCount (f_X3_readPerson (nI at_) v tl bytes).2.2 = gVi_pathCount v ∧ PR (f_X3_readPerson (nI at_) v tl bytes).2.2 (f_X9_readPerson tl (at_ + 1) (gVi_houses v) (gVi_people v) text readHome read).2.2.2.2 readPath (f_X9_readPerson tl (at_ + 1) (gVi_houses v) (gVi_people v) text readHome read).2.2.2.1 readKin) := by
  have htl := T.1
  have hH := R.1.hH
  unfold f_X3_readPerson f_X9_readPerson
  unfold f_X3_readPerson_x1 f_X3_readPerson_x2
  rw [if_neg (show ¬ 6 ≤ gVi_people v by omega), if_neg h0, nI_add1]
  rcases fig T (at_ := at_ + 1) (by omega) with ⟨c1, hc1, l1, t1, p1, g1⟩ | ⟨p1, g1⟩
  · rw [g1, hb_below (by omega)]
    by_cases cH : c1 < gVi_houses v
    · rw [if_pos (decide_eq_true cH)]
      dsimp only
      rw [if_pos (nn0 (by omega)), if_pos (nn0 (by omega)), takes_c hc1 p1 (fun z => (lt_pred (by omega) (by omega) (by omega)).mp z cH)]
      dsimp only
      rw [if_pos rfl]
      rcases fig T (at_ := at_ + 1 + 1) (by omega) with ⟨c2, hc2, l2, t2, p2, g2⟩ | ⟨p2, g2⟩
      · rw [g2, hb2 c2 hc2]
        by_cases c : c2 ≤ 1
        · rw [if_pos (decide_eq_true c)]
          dsimp only
          rw [if_pos (nn0 (by omega)), takes_c hc2 p2 (fun z => by have := (nI_lt_ (a := 1) (b := c2) (by omega) (by omega)).mp z; omega)]
          dsimp only
          rw [if_pos rfl]
          dsimp only
          refine ⟨rfl, rfl, fun _ => ⟨by omega, by omega, rfl, rfl, rfl, ?_⟩⟩
          rw [dig_back hc1 t1, dig_back hc2 t2]
          exact addPerson_PR R h6 cH c
        · rw [if_neg (show ¬ decide (c2 ≤ 1) = true from by simp [c])]
          dsimp only
          rw [if_neg nn9, takes_n (m := 1) (Or.inr ⟨c2, hc2, p2, (nI_lt_ (a := 1) (b := c2) (by omega) (by omega)).mpr (by omega)⟩)]
          dsimp only
          rw [if_neg (by decide)]
          exact ⟨rfl, rfl, fun z => by cases z⟩
      · rw [g2]
        dsimp only
        rw [if_neg nn9, takes_n (Or.inl p2)]
        dsimp only
        rw [if_neg (by decide)]
        exact ⟨rfl, rfl, fun z => by cases z⟩
    · rw [if_neg (show ¬ decide (c1 < gVi_houses v) = true from by simp [cH])]
      dsimp only
      rw [if_neg nn9, if_neg nn9, if_neg nn9, takes_n (Or.inr ⟨c1, hc1, p1, (lt_pred (by omega) (by omega) (by omega)).mpr cH⟩)]
      dsimp only
      rw [if_neg (by decide)]
      exact ⟨rfl, rfl, fun z => by cases z⟩
  · rw [g1]
    dsimp only
    rw [if_neg nn9, if_neg nn9, if_neg nn9, takes_n (Or.inl p1)]
    dsimp only
    rw [if_neg (by decide)]
    exact ⟨rfl, rfl, fun z => by cases z⟩
/-! links -/
theorem unl_hb (r : Int64) {n i : Nat} (hn : n ≤ 6) (hi : i < 8) {j : Nat} (hj : j < 32) : hb (f_X3_unlinked r (nI n) (nI i)) j = true ↔ (j < n ∧ hb (f_X8_cell r (nI i)) j = false ∧ ¬ j = i) := by
  unfold f_X3_unlinked
  rw [hb_and, hb_and, hb_not, hb_not, hb_below (by omega), hb_bit (by omega), decide_eq_true hj]
  simp only [Bool.and_eq_true, Bool.true_and, Bool.not_eq_true', decide_eq_true_eq, decide_eq_false_iff_not]
  exact ⟨fun h => ⟨h.1.1, h.1.2, h.2⟩, fun h => ⟨⟨h.1, h.2.1⟩, h.2.2⟩⟩
theorem ne0_hb {x : Int32} : ¬ x = 0 ↔ ∃ j, j < 32 ∧ hb x j = true := by
  constructor
  · intro h
    refine Classical.byContradiction fun z => h (hb_ext fun j hj => ?_)
    rw [hb_zero]
    exact Bool.eq_false_iff.mpr fun y => z ⟨j, hj, y⟩
  · rintro ⟨j, _, h⟩ e
    rw [e, hb_zero] at h
    cases h
theorem unl_ne (r : Int64) {n i : Nat} (hn : n ≤ 6) (hi : i < 8) : ¬ f_X3_unlinked r (nI n) (nI i) = 0 ↔ ∃ j, j < n ∧ hb (f_X8_cell r (nI i)) j = false ∧ ¬ j = i := by
  rw [ne0_hb]
  constructor
  · rintro ⟨j, hj, h⟩; exact ⟨j, (unl_hb r hn hi hj).mp h⟩
  · rintro ⟨j, h⟩; exact ⟨j, by omega, (unl_hb r hn hi (by omega)).mpr h⟩
theorem ite_not0 (x s t : Int32) : (if x = 0 then s else t) = if (!decide (x = 0)) = true then t else s := by
  by_cases c : x = 0
  · rw [if_pos c, decide_eq_true c, if_neg (by decide)]
  · rw [if_neg c, decide_eq_false c, if_pos (by decide)]
theorem lkb_acc (r : Int64) (n : Nat) : ∀ (q k : Nat) (s : Int32), f_X3_linkable_L5 r n q k s = accP (fun i => !decide (f_X3_unlinked r (nI n) (nI i) = 0)) q k s := by
  intro q
  induction q with
  | zero => intro k s; rfl
  | succ q ih =>
    intro k s
    simp only [f_X3_linkable_L5, accP]
    rw [ih, ite_not0 (f_X3_unlinked r (nI n) (nI k))]
theorem lkb_hb (r : Int64) {n : Nat} (hn : n ≤ 6) {i : Nat} : hb (f_X3_linkable r n) i = true ↔ (i < n ∧ ∃ j, j < n ∧ hb (f_X8_cell r (nI i)) j = false ∧ ¬ j = i) := by
  unfold f_X3_linkable
  rw [lkb_acc, accP_0 (by omega), Bool.not_eq_true', decide_eq_false_iff_not]
  exact and_congr_right fun hi => unl_ne r hn (by omega)
theorem lkb_ne (r : Int64) {n : Nat} (hn : n ≤ 6) : ¬ f_X3_linkable r n = 0 ↔ ∃ i, i < n ∧ ∃ j, j < n ∧ hb (f_X8_cell r (nI i)) j = false ∧ ¬ j = i := by
  rw [ne0_hb]
  constructor
  · rintro ⟨i, _, h⟩; exact ⟨i, (lkb_hb r hn).mp h⟩
  · rintro ⟨i, h⟩; exact ⟨i, by omega, (lkb_hb r hn).mpr h⟩
/-- the two ends -/
theorem ends (T : TR tl bytes text) (r : Int64) {n : Nat} (hn : n ≤ 6) {at_ : Nat} (hat : at_ < tl) (eA eB : Int32) (hl : ¬ f_X3_linkable r n = 0) :
    (∃ c1 c2, c1 < n ∧ (∃ j, j < n ∧ hb (f_X8_cell r (nI c1)) j = false ∧ ¬ j = c1) ∧ c2 < n ∧ ¬ c1 = c2 ∧ hb (f_X8_cell r (nI c1)) c2 = false ∧ f_X9_peek tl (at_ + 1) text = nI c1 ∧ f_X9_peek tl (at_ + 1 + 1) text = nI c2 ∧ at_ + 1 + 1 < tl ∧ f_X3_readEnds (nI at_) eA eB tl bytes r n = (true, nI (at_ + 1 + 1 + 1), nI c1, nI c2)) ∨
    ((f_X3_readEnds (nI at_) eA eB tl bytes r n).1 = false ∧
      (((f_X3_readEnds (nI at_) eA eB tl bytes r n).2.1 = nI (at_ + 1) ∧ (f_X9_peek tl (at_ + 1) text = -9 ∨ ∃ c1, c1 ≤ 9 ∧ f_X9_peek tl (at_ + 1) text = nI c1 ∧ ¬ (c1 < n ∧ ∃ j, j < n ∧ hb (f_X8_cell r (nI c1)) j = false ∧ ¬ j = c1))) ∨
       ((f_X3_readEnds (nI at_) eA eB tl bytes r n).2.1 = nI (at_ + 1 + 1) ∧ ∃ c1, c1 < n ∧ (∃ j, j < n ∧ hb (f_X8_cell r (nI c1)) j = false ∧ ¬ j = c1) ∧ f_X9_peek tl (at_ + 1) text = nI c1 ∧ (f_X9_peek tl (at_ + 1 + 1) text = -9 ∨ ∃ c2, c2 ≤ 9 ∧ f_X9_peek tl (at_ + 1 + 1) text = nI c2 ∧ ¬ (c2 < n ∧ hb (f_X8_cell r (nI c1)) c2 = false ∧ ¬ c2 = c1))))) := by
  have htl := T.1
  unfold f_X3_readEnds
  unfold f_X3_readEnds_x1 f_X3_readEnds_x2
  rw [if_neg hl, nI_add1]
  rcases fig T (at_ := at_ + 1) (by omega) with ⟨c1, hc1, l1, t1, p1, g1⟩ | ⟨p1, g1⟩
  · rw [g1]
    by_cases k1 : hb (f_X3_linkable r n) c1 = true
    · rw [if_pos k1]
      obtain ⟨k2, k3⟩ := (lkb_hb r hn).mp k1
      dsimp only
      rw [if_pos (nn0 (by omega)), if_pos (nn0 (by omega))]
      rcases fig T (at_ := at_ + 1 + 1) (by omega) with ⟨c2, hc2, l2, t2, p2, g2⟩ | ⟨p2, g2⟩
      · rw [g2]
        have hu := unl_hb r (n := n) (i := c1) hn (by omega) (j := c2) (by omega)
        by_cases k4 : hb (f_X3_unlinked r (nI n) (nI c1)) c2 = true
        · rw [if_pos k4]
          obtain ⟨k5, k6, k7⟩ := hu.mp k4
          dsimp only
          rw [if_neg (nI_neg (by omega))]
          exact Or.inl ⟨c1, c2, k2, k3, k5, fun z => k7 z.symm, k6, p1, p2, l2, rfl⟩
        · rw [if_neg k4]
          dsimp only
          rw [if_pos (by decide)]
          exact Or.inr ⟨rfl, Or.inr ⟨rfl, c1, k2, k3, p1, Or.inr ⟨c2, hc2, p2, fun z => k4 (hu.mpr z)⟩⟩⟩
      · rw [g2]
        dsimp only
        rw [if_pos (by decide)]
        exact Or.inr ⟨rfl, Or.inr ⟨rfl, c1, k2, k3, p1, Or.inl p2⟩⟩
    · rw [if_neg k1]
      dsimp only
      rw [if_neg nn9, if_neg nn9, if_pos (by decide)]
      exact Or.inr ⟨rfl, Or.inl ⟨rfl, Or.inr ⟨c1, hc1, p1, fun z => k1 ((lkb_hb r hn).mpr z)⟩⟩⟩
  · rw [g1]
    dsimp only
    rw [if_neg nn9, if_neg nn9, if_pos (by decide)]
    exact Or.inr ⟨rfl, Or.inl ⟨rfl, Or.inl p1⟩⟩
theorem pz_iff (W : VR v readPath readHome readKin) {a b : Nat} (ha : a < 4) (hb_ : b < 4) : readPath (4 * a + b) = 0 ↔ hb (f_X8_cell (gVi_paths v) (nI a)) b = false := by
  rw [W.hpath ha hb_]
  cases c1 : hb (f_X8_cell (gVi_paths v) (nI a)) b with
  | false =>
    have : ¬ hb (f_X8_cell (gVi_wells v) (nI a)) b = true := fun z => by have := W.hwell ha z; rw [c1] at this; cases this
    rw [if_neg this]; simp
  | true =>
    cases c2 : hb (f_X8_cell (gVi_wells v) (nI a)) b <;> simp
theorem pz_le (W : VR v readPath readHome readKin) {a b : Nat} (ha : a < 4) (hb_ : b < 4) : readPath (4 * a + b) ≤ 0 ↔ hb (f_X8_cell (gVi_paths v) (nI a)) b = false := by
  rw [← pz_iff W ha hb_, W.hpath ha hb_]
  split
  · decide
  · split <;> decide
theorem hasWay_iff (W : VR v readPath readHome readKin) {a : Nat} (ha : a < 4) : f_X9_hasWay (gVi_houses v) readPath a = true ↔ ∃ j, j < gVi_houses v ∧ hb (f_X8_cell (gVi_paths v) (nI a)) j = false ∧ ¬ j = a := by
  have hH := W.hH
  have e : ∀ (r k : Nat) (b : Bool), f_X9_hasWay_L4 readPath a r k b = true ↔ (b = true ∨ ∃ j, k ≤ j ∧ j < k + r ∧ readPath (4 * a + j) = 0 ∧ ¬ j = a) := by
    intro r
    induction r with
    | zero => intro k b; exact ⟨Or.inl, fun h => h.elim id fun ⟨j, h1, h2, _⟩ => by omega⟩
    | succ r ih =>
      intro k b
      simp only [f_X9_hasWay_L4]
      rw [ih]
      have e0 : (if b = true then true else (if k = a then false else (if readPath (4 * a + k) = 0 then true else false))) = true ↔ (b = true ∨ (readPath (4 * a + k) = 0 ∧ ¬ k = a)) := by
        cases b
        · by_cases c1 : k = a
          · simp [c1]
          · by_cases c2 : readPath (4 * a + k) = 0 <;> simp [c1, c2]
        · simp
      rw [e0]
      constructor
      · rintro ((h | h) | ⟨j, h1, h2, h3⟩)
        · exact Or.inl h
        · exact Or.inr ⟨k, by omega, by omega, h⟩
        · exact Or.inr ⟨j, by omega, by omega, h3⟩
      · rintro (h | ⟨j, h1, h2, h3⟩)
        · exact Or.inl (Or.inl h)
        · by_cases e1 : j = k
          · subst e1; exact Or.inl (Or.inr h3)
          · exact Or.inr ⟨j, by omega, by omega, h3⟩
  unfold f_X9_hasWay
  rw [e]
  constructor
  · rintro (h | ⟨j, h1, h2, h3, h4⟩)
    · cases h
    · exact ⟨j, by omega, (pz_iff W ha (by omega)).mp h3, h4⟩
  · rintro ⟨j, h1, h2, h3⟩
    exact Or.inr ⟨j, by omega, by omega, (pz_iff W ha (by omega)).mpr h2, h3⟩
theorem anyL {c : Nat → Bool} {L : Nat → Nat → Bool → Bool} (h0 : ∀ k b, L 0 k b = b) (hs : ∀ r k b, L (r + 1) k b = L r (k + 1) (if b = true then true else (if c k = true then true else false))) (n : Nat) : L n 0 false = true ↔ ∃ i, i < n ∧ c i = true := by
  have e : ∀ (r k : Nat) (b : Bool), L r k b = true ↔ (b = true ∨ ∃ j, k ≤ j ∧ j < k + r ∧ c j = true) := by
    intro r
    induction r with
    | zero => intro k b; rw [h0]; exact ⟨Or.inl, fun h => h.elim id fun ⟨j, h1, h2, _⟩ => by omega⟩
    | succ r ih =>
      intro k b
      rw [hs, ih]
      have e0 : (if b = true then true else (if c k = true then true else false)) = true ↔ (b = true ∨ c k = true) := by cases b <;> cases c k <;> simp
      rw [e0]
      constructor
      · rintro ((h | h) | ⟨j, h1, h2, h3⟩)
        · exact Or.inl h
        · exact Or.inr ⟨k, by omega, by omega, h⟩
        · exact Or.inr ⟨j, by omega, by omega, h3⟩
      · rintro (h | ⟨j, h1, h2, h3⟩)
        · exact Or.inl (Or.inl h)
        · by_cases e1 : j = k
          · subst e1; exact Or.inl (Or.inr h3)
          · exact Or.inr ⟨j, by omega, by omega, h3⟩
  rw [e]
  constructor
  · rintro (h | ⟨j, _, h2, h3⟩)
    · cases h
    · exact ⟨j, by omega, h3⟩
  · rintro ⟨j, h2, h3⟩; exact Or.inr ⟨j, by omega, by omega, h3⟩
theorem anyWay_iff (W : VR v readPath readHome readKin) : f_X9_hasAnyWay (gVi_houses v) readPath = true ↔ ¬ f_X3_linkable (gVi_paths v) (gVi_houses v) = 0 := by
  have hH := W.hH
  unfold f_X9_hasAnyWay
  rw [anyL (c := fun a => f_X9_hasWay (gVi_houses v) readPath a) (L := f_X9_hasAnyWay_L4 (gVi_houses v) readPath) (fun _ _ => rfl) (fun _ _ _ => rfl), lkb_ne _ (by omega)]
  constructor
  · rintro ⟨i, h1, h2⟩; exact ⟨i, h1, (hasWay_iff W (by omega)).mp h2⟩
  · rintro ⟨i, h1, h2⟩; exact ⟨i, h1, (hasWay_iff W (by omega)).mpr h2⟩
theorem hasOther_iff (R : PR v read readPath readHome readKin) {i : Nat} (hi : i < gVi_people v) : f_X9_hasOther (gVi_people v) readKin i = true ↔ ∃ j, j < gVi_people v ∧ hb (f_X8_cell (gVi_kin v) (nI i)) j = false ∧ ¬ j = i := by
  have hP := R.1.hP
  unfold f_X9_hasOther
  rw [R.1.hkin (by omega)]
  have hfull : (f_X8_cell (gVi_kin v) (nI i) ||| ((1 : Int32) <<< (nI i &&& 31))) = (((1 : Int32) <<< (nI (gVi_people v) &&& 31)) - 1) ↔ ¬ ∃ j, j < gVi_people v ∧ hb (f_X8_cell (gVi_kin v) (nI i)) j = false ∧ ¬ j = i := by
    show (f_X8_cell (gVi_kin v) (nI i) ||| f_X8_bit (nI i)) = f_X8_below (nI (gVi_people v)) ↔ _
    constructor
    · rintro h ⟨j, h1, h2, h3⟩
      have := congrArg (fun z => hb z j) h
      have e1 : hb (f_X8_cell (gVi_kin v) (nI i) ||| f_X8_bit (nI i)) j = false := by rw [hb_set (by omega), h2, decide_eq_false h3]; rfl
      have e2 : hb (f_X8_below (nI (gVi_people v))) j = true := by rw [hb_below (by omega)]; exact decide_eq_true h1
      rw [← h, e1] at e2
      cases e2
    · intro h
      refine hb_iff fun j hj => ?_
      rw [hb_set (by omega), hb_below (by omega), Bool.or_eq_true, decide_eq_true_eq, decide_eq_true_eq]
      constructor
      · rintro (z | z)
        · exact R.2.2.2.2.2.1 i (by omega) j z
        · omega
      · intro z
        by_cases e : j = i
        · exact Or.inr e
        · refine Or.inl ?_
          cases y : hb (f_X8_cell (gVi_kin v) (nI i)) j with
          | true => rfl
          | false => exact absurd ⟨j, z, y, e⟩ h
  by_cases c : (f_X8_cell (gVi_kin v) (nI i) ||| ((1 : Int32) <<< (nI i &&& 31))) = (((1 : Int32) <<< (nI (gVi_people v) &&& 31)) - 1)
  · rw [if_pos c]; exact ⟨fun z => (by cases z), fun z => absurd z (hfull.mp c)⟩
  · rw [if_neg c]; exact ⟨fun _ => Classical.byContradiction fun z => c (hfull.mpr z), fun _ => rfl⟩
theorem anyOther_iff (R : PR v read readPath readHome readKin) : f_X9_hasAnyOther (gVi_people v) readKin = true ↔ ¬ f_X3_linkable (gVi_kin v) (gVi_people v) = 0 := by
  have hP := R.1.hP
  unfold f_X9_hasAnyOther
  rw [anyL (c := fun a => f_X9_hasOther (gVi_people v) readKin a) (L := f_X9_hasAnyOther_L4 (gVi_people v) readKin) (fun _ _ => rfl) (fun _ _ _ => rfl), lkb_ne _ (by omega)]
  constructor
  · rintro ⟨i, h1, h2⟩; exact ⟨i, h1, (hasOther_iff R h1).mp h2⟩
  · rintro ⟨i, h1, h2⟩; exact ⟨i, h1, (hasOther_iff R h1).mpr h2⟩
theorem in_no {P : Nat} (hP : P ≤ 6) {x : Int32} (h : x = -9 ∨ ∃ c, c ≤ 9 ∧ x = nI c ∧ ¬ c < P) : ¬ f_X9_in x.toInt64 0 ((nI P - 1).toInt64) = true := fun z => by
  have z := (in_nat hP x).mp z
  rcases h with e | ⟨c, hc, e, hn⟩
  · rw [e] at z; exact z.1 (by decide)
  · rw [e] at z; exact hn ((nI_lt_ (by omega) (by omega)).mp z.2)
theorem in_yes {P c : Nat} (hP : P ≤ 6) (h : c < P) : f_X9_in (nI c).toInt64 0 ((nI P - 1).toInt64) = true := (in_nat hP _).mpr ⟨nI_neg (by omega), (nI_lt_ (by omega) (by omega)).mpr h⟩
theorem path_side (T : TR tl bytes text) (R : PR v read readPath readHome readKin) {at_ : Nat} (hat : at_ < tl) (eA eB : Int32) (hl : ¬ f_X3_linkable (gVi_paths v) (gVi_houses v) = 0) :
    (f_X3_readPath (nI at_) eA eB v tl bytes).1 = (f_X9_readWay tl (at_ + 1) (gVi_houses v) (gVi_pathCount v) text readPath).1 ∧ (f_X3_readPath (nI at_) eA eB v tl bytes).2.1 = nI (f_X9_readWay tl (at_ + 1) (gVi_houses v) (gVi_pathCount v) text readPath).2.1 ∧
    ((f_X3_readPath (nI at_) eA eB v tl bytes).1 = true → at_ < (f_X9_readWay tl (at_ + 1) (gVi_houses v) (gVi_pathCount v) text readPath).2.1 ∧ (f_X9_readWay tl (at_ + 1) (gVi_houses v) (gVi_pathCount v) text readPath).2.1 ≤ tl ∧ gVi_houses (f_X3_readPath (nI at_) eA eB v tl bytes).2.2.2.2 = gVi_houses v ∧ gVi_people (f_X3_readPath (nI at_) eA eB v tl bytes).2.2.2.2 = gVi_people v ∧ gVi_pathCount (f_X3_readPath (nI at_) eA eB v tl bytes).2.2.2.2 = (f_X9_readWay tl (at_ + 1) (gVi_houses v) (gVi_pathCount v) text readPath).2.2.1 ∧ PR (f_X3_readPath (nI at_) eA eB v tl bytes).2.2.2.2 read (f_X9_readWay tl (at_ + 1) (gVi_houses v) (gVi_pathCount v) text readPath).2.2.2 readHome readKin) := by
  have htl := T.1
  have hH := R.1.hH
  unfold f_X3_readPath f_X9_readWay
  unfold f_X3_readPath_x1 f_X3_readPath_x2
  rcases ends T (gVi_paths v) (n := gVi_houses v) (by omega) hat eA eB hl with ⟨c1, c2, k1, k2, k3, k4, k5, p1, p2, l2, g⟩ | ⟨g, h⟩
  · rw [g, p1, p2]
    dsimp only
    rw [if_pos rfl, if_pos rfl, in_yes (by omega) k1, tn_nI (by omega), tn_nI (by omega), if_pos rfl, if_pos ((hasWay_iff R.1 (by omega)).mpr k2), in_yes (by omega) k3, if_pos rfl, if_neg k4, if_pos ((pz_le R.1 (by omega) (by omega)).mpr k5)]
    rcases fig T (at_ := at_ + 1 + 1 + 1) (by omega) with ⟨c3, hc3, l3, t3, p3, g3⟩ | ⟨p3, g3⟩
    · rw [g3, hb2 c3 hc3]
      by_cases c : c3 ≤ 1
      · rw [if_pos (decide_eq_true c), takes_c hc3 p3 (fun z => by have := (nI_lt_ (a := 1) (b := c3) (by omega) (by omega)).mp z; omega)]
        dsimp only
        rw [if_pos (nn0 (by omega)), if_pos rfl]
        dsimp only
        refine ⟨rfl, rfl, fun _ => ⟨by omega, by omega, rfl, rfl, rfl, ?_⟩⟩
        have e1 : ((1 + text (at_ + 1 + 1 + 1 + 1 - 1)) - 48 : Int32) = nI (1 + c3) := by
          rw [Nat.add_sub_cancel, t3, show (1 + nI (48 + c3) : Int32) = nI (1 + (48 + c3)) from nI_add 1 _, show (nI (1 + (48 + c3)) - 48 : Int32) = nI (1 + (48 + c3) - 48) from pk_sub (b := 48) (by omega)]
          exact congrArg nI (by omega)
        rw [e1]
        have e2 : upd readPath (4 * c1 + c2) (nI (1 + c3)) (4 * c1 + c2) = nI (1 + c3) := if_pos rfl
        rw [e2]
        have hsym : hb (f_X8_cell (gVi_paths v) (nI c2)) c1 = false := (by rw [← k5]; exact (R.2.2.2.2.2.2 c2 (by omega) c1 (by omega)))
        exact addPath_PR R k1 k3 k4 k5 hsym c
      · rw [if_neg (show ¬ decide (c3 ≤ 1) = true from by simp [c]), takes_n (m := 1) (Or.inr ⟨c3, hc3, p3, (nI_lt_ (a := 1) (b := c3) (by omega) (by omega)).mpr (by omega)⟩)]
        dsimp only
        rw [if_neg nn9, if_neg (by decide)]
        exact ⟨rfl, rfl, fun z => (by cases z)⟩
    · rw [g3, takes_n (Or.inl p3)]
      dsimp only
      rw [if_neg nn9, if_neg (by decide)]
      exact ⟨rfl, rfl, fun z => (by cases z)⟩
  · rw [g]
    simp only [Bool.false_eq_true, if_false, if_neg nn9]
    rcases h with ⟨g1, h⟩ | ⟨g1, c1, k1, k2, p1, h⟩
    · rw [g1]
      rcases h with p1 | ⟨c1, hc1, p1, hn⟩
      · rw [p1, if_neg (in_no (by omega) (Or.inl rfl))]
        exact ⟨rfl, rfl, fun z => (by cases z)⟩
      · rw [p1]
        by_cases cH : c1 < gVi_houses v
        · rw [in_yes (by omega) cH, if_pos rfl, tn_nI (by omega), if_neg (fun z => hn ⟨cH, (hasWay_iff R.1 (by omega)).mp z⟩)]
          exact ⟨rfl, rfl, fun z => (by cases z)⟩
        · rw [if_neg (in_no (by omega) (Or.inr ⟨c1, hc1, rfl, cH⟩))]
          exact ⟨rfl, rfl, fun z => (by cases z)⟩
    · rw [g1, p1, in_yes (by omega) k1, if_pos rfl, tn_nI (by omega), if_pos ((hasWay_iff R.1 (by omega)).mpr k2)]
      rcases h with p2 | ⟨c2, hc2, p2, hn⟩
      · rw [p2, if_neg (in_no (by omega) (Or.inl rfl))]
        exact ⟨rfl, rfl, fun z => (by cases z)⟩
      · rw [p2]
        by_cases cH : c2 < gVi_houses v
        · rw [in_yes (by omega) cH, if_pos rfl, tn_nI (by omega)]
          by_cases e : c1 = c2
          · rw [if_pos e]; exact ⟨rfl, rfl, fun z => (by cases z)⟩
          · rw [if_neg e, if_neg (fun z => hn ⟨cH, (pz_le R.1 (by omega) (by omega)).mp z, fun y => e y.symm⟩)]
            exact ⟨rfl, rfl, fun z => (by cases z)⟩
        · rw [if_neg (in_no (by omega) (Or.inr ⟨c2, hc2, rfl, cH⟩))]
          exact ⟨rfl, rfl, fun z => (by cases z)⟩
theorem kin_side (T : TR tl bytes text) (R : PR v read readPath readHome readKin) {at_ : Nat} (hat : at_ < tl) (eA eB : Int32) (hl : ¬ f_X3_linkable (gVi_kin v) (gVi_people v) = 0) :
    (f_X3_readKin (nI at_) eA eB v tl bytes).1 = (f_X9_readTwo tl (at_ + 1) (gVi_people v) text readKin).1 ∧ (f_X3_readKin (nI at_) eA eB v tl bytes).2.1 = nI (f_X9_readTwo tl (at_ + 1) (gVi_people v) text readKin).2.1 ∧
    ((f_X3_readKin (nI at_) eA eB v tl bytes).1 = true → at_ < (f_X9_readTwo tl (at_ + 1) (gVi_people v) text readKin).2.1 ∧ (f_X9_readTwo tl (at_ + 1) (gVi_people v) text readKin).2.1 ≤ tl ∧ gVi_houses (f_X3_readKin (nI at_) eA eB v tl bytes).2.2.2.2 = gVi_houses v ∧ gVi_people (f_X3_readKin (nI at_) eA eB v tl bytes).2.2.2.2 = gVi_people v ∧ gVi_pathCount (f_X3_readKin (nI at_) eA eB v tl bytes).2.2.2.2 = gVi_pathCount v ∧ PR (f_X3_readKin (nI at_) eA eB v tl bytes).2.2.2.2 read readPath readHome (f_X9_readTwo tl (at_ + 1) (gVi_people v) text readKin).2.2) := by
  have htl := T.1
  have hP := R.1.hP
  unfold f_X3_readKin f_X9_readTwo
  rcases ends T (gVi_kin v) (n := gVi_people v) (by omega) hat eA eB hl with ⟨c1, c2, k1, k2, k3, k4, k5, p1, p2, l2, g⟩ | ⟨g, h⟩
  · rw [g, p1, p2]
    dsimp only
    rw [if_pos rfl, in_yes (by omega) k1, tn_nI (by omega), tn_nI (by omega), if_pos rfl, if_pos ((hasOther_iff R k1).mpr k2), in_yes (by omega) k3, if_pos rfl, if_neg k4, if_neg (show ¬ f_X9_has (readKin c1) (nI c2) = true from fun z => by rw [has9_hb (by omega), R.1.hkin (by omega), k5] at z; cases z)]
    exact ⟨rfl, rfl, fun _ => ⟨by show at_ < at_ + 1 + 1 + 1; omega, by show at_ + 1 + 1 + 1 ≤ tl; omega, rfl, rfl, rfl, addKin_PR R k1 k3 k4⟩⟩
  · rw [g]
    simp only [Bool.false_eq_true, if_false]
    rcases h with ⟨g1, h⟩ | ⟨g1, c1, k1, k2, p1, h⟩
    · rw [g1]
      rcases h with p1 | ⟨c1, hc1, p1, hn⟩
      · rw [p1, if_neg (in_no (by omega) (Or.inl rfl))]
        exact ⟨rfl, rfl, fun z => (by cases z)⟩
      · rw [p1]
        by_cases cH : c1 < gVi_people v
        · rw [in_yes (by omega) cH, if_pos rfl, tn_nI (by omega), if_neg (fun z => hn ⟨cH, (hasOther_iff R cH).mp z⟩)]
          exact ⟨rfl, rfl, fun z => (by cases z)⟩
        · rw [if_neg (in_no (by omega) (Or.inr ⟨c1, hc1, rfl, cH⟩))]
          exact ⟨rfl, rfl, fun z => (by cases z)⟩
    · rw [g1, p1, in_yes (by omega) k1, if_pos rfl, tn_nI (by omega), if_pos ((hasOther_iff R k1).mpr k2)]
      rcases h with p2 | ⟨c2, hc2, p2, hn⟩
      · rw [p2, if_neg (in_no (by omega) (Or.inl rfl))]
        exact ⟨rfl, rfl, fun z => (by cases z)⟩
      · rw [p2]
        by_cases cH : c2 < gVi_people v
        · rw [in_yes (by omega) cH, if_pos rfl, tn_nI (by omega)]
          by_cases e : c1 = c2
          · rw [if_pos e]; exact ⟨rfl, rfl, fun z => (by cases z)⟩
          · rw [if_neg e, if_pos (show f_X9_has (readKin c1) (nI c2) = true from by
              rw [has9_hb (by omega), R.1.hkin (by omega)]
              cases y : hb (f_X8_cell (gVi_kin v) (nI c1)) c2 with
              | true => rfl
              | false => exact absurd ⟨cH, y, fun z => e z.symm⟩ hn)]
            exact ⟨rfl, rfl, fun z => (by cases z)⟩
        · rw [if_neg (in_no (by omega) (Or.inr ⟨c2, hc2, rfl, cH⟩))]
          exact ⟨rfl, rfl, fun z => (by cases z)⟩
end SIDE
