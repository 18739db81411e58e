def isS (n : Nat) (x : Int32) : Prop := ∃ s, s < n ∧ x = nI s
theorem isS_or {x y : Int32} (h1 : isS 16 x) (h2 : isS 16 y) : isS 16 (x ||| y) := by
  obtain ⟨s, hs, rfl⟩ := h1
  obtain ⟨t, ht, rfl⟩ := h2
  have : ∀ s : Fin 16, ∀ t : Fin 16, ∃ u : Fin 16, nI s.1 ||| nI t.1 = nI u.1 := by decide +kernel
  obtain ⟨u, hu⟩ := this ⟨s, hs⟩ ⟨t, ht⟩
  exact ⟨u.1, u.2, hu⟩
theorem isS_and {x y : Int32} (h1 : isS 16 x) (h2 : isS 16 y) : isS 16 (x &&& y) := by
  obtain ⟨s, hs, rfl⟩ := h1
  obtain ⟨t, ht, rfl⟩ := h2
  have : ∀ s : Fin 16, ∀ t : Fin 16, ∃ u : Fin 16, nI s.1 &&& nI t.1 = nI u.1 := by decide +kernel
  obtain ⟨u, hu⟩ := this ⟨s, hs⟩ ⟨t, ht⟩
  exact ⟨u.1, u.2, hu⟩
theorem isS_bit {k : Nat} (h : k < 4) : isS 16 ((1 : Int32) <<< (nI k &&& 31)) := by
  match k, h with
  | 0, _ => exact ⟨1, by omega, by decide⟩
  | 1, _ => exact ⟨2, by omega, by decide⟩
  | 2, _ => exact ⟨4, by omega, by decide⟩
  | 3, _ => exact ⟨8, by omega, by decide⟩
theorem isS_0 : isS 16 0 := ⟨0, by omega, rfl⟩
theorem open_S {now : Nat → Int32} : ∀ (r k : Nat) (x : Int32), k + r ≤ 4 → isS 16 x → isS 16 (f_X9_open_L4 now r k x) := by
  intro r
  induction r with
  | zero => intro k x _ h; exact h
  | succ r ih =>
    intro k x hk h
    simp only [f_X9_open_L4]
    refine ih _ _ (by omega) (isS_or h ?_)
    split
    · exact isS_bit (by omega)
    · exact isS_0
theorem nextTo_S {path : Nat → Int32} {p : Nat} {l : Int32} : ∀ (r k : Nat) (x : Int32), k + r ≤ 4 → isS 16 x → isS 16 (f_X9_nextTo_L5 path p l r k x) := by
  intro r
  induction r with
  | zero => intro k x _ h; exact h
  | succ r ih =>
    intro k x hk h
    simp only [f_X9_nextTo_L5]
    refine ih _ _ (by omega) (isS_or h ?_)
    split
    · exact isS_0
    · exact isS_bit (by omega)
theorem goesTo_S {H p : Nat} {now home path : Nat → Int32} (hH : H ≤ 4) : isS 16 (f_X9_goesTo H now home path p) := by
  unfold f_X9_goesTo
  split
  · exact isS_0
  · exact isS_and (nextTo_S H 0 0 (by omega) isS_0) (open_S H 0 0 (by omega) isS_0)
theorem mayOf_S {H p : Nat} {now home path : Nat → Int32} (hH : H ≤ 4) : isS 16 (f_X9_mayOf H now home path p) := by
  unfold f_X9_mayOf
  repeat' split
  all_goals first | exact goesTo_S hH | exact isS_0
theorem bits_S {x : Int32} (h : isS 16 x) : f_X9_bits x = nI (tn (f_X9_bits x)) ∧ tn (f_X9_bits x) ≤ 4 := by
  obtain ⟨s, hs, rfl⟩ := h
  have : ∀ s : Fin 16, f_X9_bits (nI s.1) = nI (tn (f_X9_bits (nI s.1))) ∧ tn (f_X9_bits (nI s.1)) ≤ 4 := by decide +kernel
  exact this ⟨s, hs⟩
theorem placeOf_E {x : Int32} {q : Nat} (h : isS 16 x) (hq : q < tn (f_X9_bits x)) : f_X9_placeOf_L4_E x fuelP (nI q) 0 = true := by
  obtain ⟨s, hs, rfl⟩ := h
  have : ∀ s : Fin 16, ∀ q : Fin 4, q.1 < tn (f_X9_bits (nI s.1)) → f_X9_placeOf_L4_E (nI s.1) fuelP (nI q.1) 0 = true := by decide +kernel
  exact this ⟨s, hs⟩ ⟨q, Nat.lt_of_lt_of_le hq (bits_S ⟨s, hs, rfl⟩).2⟩ hq
theorem placeOf_S {x : Int32} {q : Nat} (h : isS 16 x) (hq : q < tn (f_X9_bits x)) : f_X9_placeOf x (nI q) = nI (tn (f_X9_placeOf x (nI q))) ∧ tn (f_X9_placeOf x (nI q)) < 4 := by
  obtain ⟨s, hs, rfl⟩ := h
  have : ∀ s : Fin 16, ∀ q : Fin 4, q.1 < tn (f_X9_bits (nI s.1)) → (f_X9_placeOf (nI s.1) (nI q.1) = nI (tn (f_X9_placeOf (nI s.1) (nI q.1))) ∧ tn (f_X9_placeOf (nI s.1) (nI q.1)) < 4) := by decide +kernel
  exact this ⟨s, hs⟩ ⟨q, Nat.lt_of_lt_of_le hq (bits_S ⟨s, hs, rfl⟩).2⟩ hq
