/-! the calls that tell tales -/
section T1
variable {F G : Nat → Int64} {x : Nat → Nat} {n : TN} {a : Nat → Int32} {v : TVi} {path home kin : Nat → Int32}
theorem setAt_eq (hFG : ∀ i, i < 64 → F i = G i) (p1 : Int32) (T : Nat → Nat → Int32 → Int32) (hT0 : ∀ k l, T 0 k l = -9) (hT : ∀ r k l, T (r + 1) k l = if 0 < G k then (if l = p1 then nI k else T r (k + 1) (l + 1)) else T r (k + 1) l) : f_X5_setNumbered F p1 = T 64 0 0 := by
  have e : ∀ (r k : Nat) (s : Int32), k + r ≤ 64 → f_X5_setNumbered_L4 F p1 r k s = T r k s := by
    intro r
    induction r with
    | zero => intro k s _; rw [hT0]; rfl
    | succ r ih =>
      intro k s h
      simp only [f_X5_setNumbered_L4]
      rw [ih _ _ (by omega), ih _ _ (by omega), hT, hFG k (by omega)]
  exact e 64 0 0 (by omega)
theorem sureC (hF : ∀ i, i < 64 → x i ≤ 68719476736 ∧ F i = lN (x i)) (P : Nat) (hP : P ≤ 6) (p : Nat) : hb (f_X5_inAll P F) p = true ↔ (p < P ∧ ∀ k, k < 64 → psC x k = true → pwC x p k = true) := by
  have e : ∀ (r k : Nat) (s : Int32), k + r ≤ 64 → (hb (f_X5_inAll_L10 F r k s) p = true ↔ hb s p = true ∧ ∀ j, k ≤ j → j < k + r → psC x j = true → pwC x p j = true) := by
    intro r
    induction r with
    | zero => intro k s _; exact ⟨fun h => ⟨h, fun j h1 h2 => by omega⟩, fun h => h.1⟩
    | succ r ih =>
      intro k s hk
      obtain ⟨h1, h2⟩ := hF k (by omega)
      simp only [f_X5_inAll_L10]
      rw [ih _ _ (by omega), hb_and, Bool.and_eq_true, h2]
      have e1 : (hb s p = true ∧ hb (if 0 < lN (x k) then nI k else -1) p = true) ↔ (hb s p = true ∧ (psC x k = true → pwC x p k = true)) := by
        refine and_congr_right fun hs => ?_
        unfold psC pwC
        by_cases c : 0 < x k
        · rw [if_pos ((pos_iff h1).mpr c)]; simp [c]
        · rw [if_neg (fun z => c ((pos_iff h1).mp z))]
          have h32 : p < 32 := Nat.lt_of_not_le fun z => by rw [hb_big z] at hs; cases hs
          simp [c]
          exact (show ∀ p, p < 32 → hb (-1) p = true by decide) p h32
      rw [e1]
      constructor
      · rintro ⟨⟨h3, h4⟩, h5⟩
        refine ⟨h3, fun j h6 h7 h8 => ?_⟩
        by_cases ej : j = k
        · subst ej; exact h4 h8
        · exact h5 j (by omega) (by omega) h8
      · rintro ⟨h3, h4⟩
        exact ⟨⟨h3, h4 k (by omega) (by omega)⟩, fun j h6 h7 h8 => h4 j (by omega) (by omega) h8⟩
  unfold f_X5_inAll
  rw [e 64 0 _ (by omega), hb_below (by omega), decide_eq_true_eq]
  exact and_congr_right fun _ => ⟨fun h k hk => h k (by omega) (by omega), fun h j _ hj => h j (by omega)⟩
theorem sumAll (hF : ∀ i, i < 64 → x i ≤ 68719476736 ∧ F i = lN (x i)) : ∃ s, s ≤ 64 * 68719476736 ∧ f_X5_all F = lN s ∧ ∀ p, p < 32 → ∃ t, t ≤ s ∧ f_X5_allWith F (nI p) = lN t := by
  have e : ∀ (r k s : Nat), k + r ≤ 64 → ∃ z, z ≤ r * 68719476736 ∧ f_X5_all_L4 F r k (lN s) = lN (s + z) ∧ ∀ p t, p < 32 → ∃ y, y ≤ z ∧ f_X5_allWith_L5 F (nI p) r k (lN t) = lN (t + y) := by
    intro r
    induction r with
    | zero => intro k s _; exact ⟨0, by omega, rfl, fun p t _ => ⟨0, by omega, rfl⟩⟩
    | succ r ih =>
      intro k s hk
      obtain ⟨h1, h2⟩ := hF k (by omega)
      obtain ⟨z, hz, e1, e2⟩ := ih (k + 1) (s + x k) (by omega)
      refine ⟨x k + z, by rw [Nat.add_mul]; omega, ?_, fun p t hp => ?_⟩
      · simp only [f_X5_all_L4]
        rw [h2, lN_add, e1, Nat.add_assoc]
      · simp only [f_X5_allWith_L5]
        rw [h2, has_hb hp]
        by_cases c : hb (nI k) p = true
        · rw [if_pos c, lN_add]
          obtain ⟨y, hy, e3⟩ := e2 p (t + x k) hp
          exact ⟨x k + y, by omega, by rw [e3, Nat.add_assoc]⟩
        · rw [if_neg c, show (0 : Int64) = lN 0 from rfl, lN_add, Nat.add_zero]
          obtain ⟨y, hy, e3⟩ := e2 p t hp
          exact ⟨y, by omega, e3⟩
  obtain ⟨z, hz, e1, e2⟩ := e 64 0 0 (by omega)
  rw [Nat.zero_add] at e1
  refine ⟨z, hz, e1, fun p hp => ?_⟩
  obtain ⟨y, hy, e3⟩ := e2 p 0 hp
  rw [Nat.zero_add] at e3
  exact ⟨y, hy, e3⟩
theorem choice_eq (W : VR v path home kin) (N : NR (gVi_people v) n a) (hF : ∀ i, i < 64 → x i ≤ 68719476736 ∧ F i = lN (x i)) (hFG : ∀ i, i < 64 → F i = G i) {p : Nat} (hp : p < gVi_people v) : f_X8_choiceOf n v F (nI p) = f_X9_voteOf (gVi_people v) a G p ∧ (f_X8_choiceOf n v F (nI p) = -9 ∨ ∃ j, j < gVi_people v ∧ f_X8_choiceOf n v F (nI p) = nI j) := by
  have hP := W.hP
  have hopen : ∀ k, k < gVi_people v → f_X8_has (if f_X8_has (gN_wolves n) (nI p) = true then ((f_X2_there n v &&& (f_X8_bit (nI p) ^^^ (-1))) &&& (gN_wolves n ^^^ (-1))) else (f_X2_there n v &&& (f_X8_bit (nI p) ^^^ (-1)))) (nI k) = (if k = p then false else (if f_X9_isThere a k = true then (if f_X9_of a p 0 = 0 then true else (if f_X9_of a k 0 = 0 then true else false)) else false)) := by
    intro k hk
    have ht : hb (f_X2_there n v) k = !hb (gN_gone n) k := by
      have h := there_hb n v hP k
      cases c : hb (gN_gone n) k with
      | true => exact Bool.eq_false_iff.mpr fun z => by rw [(h.mp z).2] at c; cases c
      | false => exact h.mpr ⟨hk, c⟩
    have e1 : hb (f_X2_there n v &&& (f_X8_bit (nI p) ^^^ (-1))) k = (!hb (gN_gone n) k && !decide (k = p)) := by
      rw [hb_and, hb_not, hb_bit (by omega), ht, decide_eq_true (show k < 32 by omega), Bool.true_and]
    have e2 : hb ((f_X2_there n v &&& (f_X8_bit (nI p) ^^^ (-1))) &&& (gN_wolves n ^^^ (-1))) k = ((!hb (gN_gone n) k && !decide (k = p)) && !hb (gN_wolves n) k) := by
      rw [hb_and, e1, hb_not, decide_eq_true (show k < 32 by omega), Bool.true_and]
    rw [has_hb (by omega), N.isThere (by omega), N.wolf (by omega), N.wolf (by omega), has_hb (by omega)]
    cases c1 : hb (gN_wolves n) p
    · rw [if_neg (by decide), e1]
      cases hb (gN_gone n) k <;> by_cases e : k = p <;> simp [e, bI]
    · rw [if_pos rfl, e2]
      cases hb (gN_gone n) k <;> cases hb (gN_wolves n) k <;> by_cases e : k = p <;> simp [e, bI]
  have hsw : ∀ k, k < 32 → f_X9_setsWith G (nI k) = f_X5_setsWith F (nI k) := fun k hk => setsWith9_eq hFG hk
  have hsn : ∀ k, k < 32 → ∃ z, z ≤ 64 ∧ f_X5_setsWith F (nI k) = nI z := fun k hk => ⟨_, cntR_le _ _ _, setsWith_cnt hF hk⟩
  have e : ∀ (r k : Nat) (c m : Int32), k + r = gVi_people v → ((c = -9 ∧ m = -1) ∨ ∃ j, j < gVi_people v ∧ c = nI j ∧ m = f_X5_setsWith F (nI j)) → (f_X8_choiceOf_L54 n v F (nI p) r k c m).1 = f_X9_voteOf_L5 a G p r k c ∧ ((f_X8_choiceOf_L54 n v F (nI p) r k c m).1 = -9 ∨ ∃ j, j < gVi_people v ∧ (f_X8_choiceOf_L54 n v F (nI p) r k c m).1 = nI j) := by
    intro r
    induction r with
    | zero =>
      intro k c m _ hi
      refine ⟨rfl, ?_⟩
      rcases hi with ⟨h1, _⟩ | ⟨j, h1, h2, _⟩
      · exact Or.inl h1
      · exact Or.inr ⟨j, h1, h2⟩
    | succ r ih =>
      intro k c m hk hi
      simp only [f_X8_choiceOf_L54, f_X9_voteOf_L5]
      unfold f_X8_choiceOf_x1 f_X8_choiceOf_x2 f_X9_voteOf_x1
      rw [hopen k (by omega)]
      generalize hc : (if k = p then false else (if f_X9_isThere a k = true then (if f_X9_of a p 0 = 0 then true else (if f_X9_of a k 0 = 0 then true else false)) else false)) = cc
      cases cc with
      | false => simp only [Bool.false_eq_true, if_false]; exact ih _ _ _ (by omega) hi
      | true =>
        simp only [if_true]
        obtain ⟨z, hz, ez⟩ := hsn k (by omega)
        rcases hi with ⟨h1, h2⟩ | ⟨j, h1, h2, h3⟩
        · subst h1; subst h2
          rw [if_pos rfl, ez, if_neg (show ¬ nI z ≤ -1 from fun y => nI_neg (n := z) (by omega) (Int32.lt_of_le_of_lt y (by decide))), if_neg (show ¬ nI z ≤ -1 from fun y => nI_neg (n := z) (by omega) (Int32.lt_of_le_of_lt y (by decide)))]
          exact ih _ _ _ (by omega) (Or.inr ⟨k, by omega, rfl, ez.symm⟩)
        · subst h2
          subst h3
          rw [if_neg (nI9 (by omega)), hsw k (by omega), hsw j (by omega)]
          by_cases c1 : f_X5_setsWith F (nI k) ≤ f_X5_setsWith F (nI j)
          · rw [if_pos c1, if_pos c1]; exact ih _ _ _ (by omega) (Or.inr ⟨j, h1, rfl, rfl⟩)
          · rw [if_neg c1, if_neg c1]; exact ih _ _ _ (by omega) (Or.inr ⟨k, by omega, rfl, rfl⟩)
  exact e (gVi_people v) 0 (-9) (-1) (by omega) (Or.inl ⟨rfl, rfl⟩)
theorem lockedIn_eq (W : VR v path home kin) (N : NR (gVi_people v) n a) (sus : Int32) (s : Nat) (hs : s < 16) (T : Nat → Nat → Bool → Bool) (hT0 : ∀ k b, T 0 k b = b) (hT : ∀ r k b, T (r + 1) k b = T r (k + 1) (if b = true then (if f_X9_has sus (nI k) = true then (if f_X9_has (nI s) (home k) = true then true else (if (f_X9_goesTo (gVi_houses v) a home path k &&& (nI s ^^^ (-1))) = 0 then true else false)) else true) else false)) : f_X8_lockedIn n v sus (nI s) = T (gVi_people v) 0 true := by
  have hP := W.hP
  have hf : ∀ r k, T r k false = false := by
    intro r
    induction r with
    | zero => intro k; exact hT0 _ _
    | succ r ih => intro k; rw [hT]; exact ih _
  have e : ∀ (r k : Nat), k + r = gVi_people v → f_X8_lockedIn_L30 n v sus (nI s) r k = T r k true := by
    intro r
    induction r with
    | zero => intro k _; rw [hT0]; rfl
    | succ r ih =>
      intro k hk
      have h4 := W.hcn (p := k) (by omega)
      simp only [f_X8_lockedIn_L30]
      rw [hT, if_pos rfl, ih _ (by omega), reach_eq N W (by omega), W.hhome (by omega)]
      by_cases c1 : f_X8_has sus (nI k) = true
      · rw [if_pos c1, if_pos (show f_X9_has sus (nI k) = true from c1)]
        unfold f_X2_reach
        rw [cell_cn (gVi_homes v) k, has_hb (by omega), has_hb (by omega), hb_or, has9_hb (by omega)]
        cases hbar : hb (gN_barred n) (cn (gVi_homes v) k) with
        | true =>
          rw [Bool.true_or, if_pos rfl, if_pos rfl]
          have : ((0 : Int32) &&& (nI s ^^^ (-1))) = 0 := Int32.zero_and
          rw [this, if_pos rfl, ite_self]
        | false =>
          rw [Bool.false_or, if_neg (show ¬ false = true by decide)]
          by_cases c2 : hb (nI s) (cn (gVi_homes v) k) = true
          · rw [if_pos c2, if_pos c2]
          · rw [if_neg c2, if_neg c2, Int32.and_assoc]
            by_cases c3 : (f_X8_cell (gVi_paths v) (nI (cn (gVi_homes v) k)) &&& (f_X2_openHouses n v &&& (nI s ^^^ (-1)))) = 0
            · rw [if_pos c3, if_pos c3]
            · rw [if_neg c3, if_neg c3, hf]
      · rw [if_neg c1, if_neg (show ¬ f_X9_has sus (nI k) = true from c1)]
  exact e _ 0 (by omega)
end T1
