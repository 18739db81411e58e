theorem biter_e {now : Nat → Int32} (h : ∀ q, q < 6 → now (13 + 5 * q + 4) = -9 ∨ ∃ j, j < 6 ∧ now (13 + 5 * q + 4) = nI j) {q : Nat} (hq : q < 6) (hn : ¬ f_X9_of now q 4 = -9) : f_X9_of now q 4 = nI (tn (f_X9_of now q 4)) := by
  obtain h1 | ⟨j, hj, h1⟩ := h q hq
  · exact absurd h1 hn
  · have h2 : f_X9_of now q 4 = nI j := h1
    rw [h2, tn_nI (by omega)]
theorem biter_b {now : Nat → Int32} (h : ∀ q, q < 6 → now (13 + 5 * q + 4) = -9 ∨ ∃ j, j < 6 ∧ now (13 + 5 * q + 4) = nI j) {q : Nat} (hq : q < 6) (hn : ¬ f_X9_of now q 4 = -9) : tn (f_X9_of now q 4) < 6 := by
  obtain h1 | ⟨j, hj, h1⟩ := h q hq
  · exact absurd h1 hn
  · have h2 : f_X9_of now q 4 = nI j := h1
    rw [h2, tn_nI (by omega)]; exact hj
/-- the numbers of where they went are small -/
def wOK (went : Nat → Int32) : Prop := ∀ q, q < 6 → ∃ v, v ≤ 4 ∧ went q = nI v
