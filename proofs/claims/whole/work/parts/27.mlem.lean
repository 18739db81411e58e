theorem preyOf_L {now home kin : Nat → Int32} {p h : Nat} : ∀ (r k : Nat), k + r ≤ 6 → f_X9_preyOf_L2 now home kin p h r k = -9 ∨ ∃ j, j < k + r ∧ f_X9_preyOf_L2 now home kin p h r k = nI j := by
  intro r
  induction r with
  | zero => intro k _; exact Or.inl rfl
  | succ r ih =>
    intro k hk
    have h1 := ih (k + 1) (by omega)
    have h2 : f_X9_preyOf_L2 now home kin p h r (k + 1) = -9 ∨ ∃ j, j < k + (r + 1) ∧ f_X9_preyOf_L2 now home kin p h r (k + 1) = nI j := h1.imp id (fun ⟨j, a, b⟩ => ⟨j, by omega, b⟩)
    have h3 : (nI k = -9 ∨ ∃ j, j < k + (r + 1) ∧ nI k = nI j) := Or.inr ⟨k, by omega, rfl⟩
    simp only [f_X9_preyOf_L2]
    repeat' split
    all_goals first | exact h2 | exact h3 | exact Or.inl rfl
theorem preyOf_r {P : Nat} {now home kin : Nat → Int32} {p h : Nat} (hP : P ≤ 6) : f_X9_preyOf P now home kin p h = -9 ∨ ∃ j, j < P ∧ f_X9_preyOf P now home kin p h = nI j := by
  have h1 := preyOf_L (now := now) (home := home) (kin := kin) (p := p) (h := h) P 0 (by omega)
  simpa [f_X9_preyOf] using h1
theorem preyOf_e {P : Nat} {now home kin : Nat → Int32} {p h : Nat} (hP : P ≤ 6) (hn : ¬ f_X9_preyOf P now home kin p h = -9) : f_X9_preyOf P now home kin p h = nI (tn (f_X9_preyOf P now home kin p h)) := by
  obtain h1 | ⟨j, hj, h1⟩ := preyOf_r (now := now) (home := home) (kin := kin) (p := p) (h := h) hP
  · exact absurd h1 hn
  · rw [h1, tn_nI (by omega)]
theorem preyOf_b {P : Nat} {now home kin : Nat → Int32} {p h : Nat} (hP : P ≤ 6) (hn : ¬ f_X9_preyOf P now home kin p h = -9) : tn (f_X9_preyOf P now home kin p h) < P := by
  obtain h1 | ⟨j, hj, h1⟩ := preyOf_r (now := now) (home := home) (kin := kin) (p := p) (h := h) hP
  · exact absurd h1 hn
  · rw [h1, tn_nI (by omega)]; exact hj
