theorem takes_t {size at_ : Nat} {text : Nat → Int32} {most : Int32} (h : (f_X9_takes size at_ text most).1 = true) : f_X9_in ((f_X9_peek size at_ text).toInt64) 0 most.toInt64 = true := h
theorem peek_in {size at_ : Nat} {text : Nat → Int32} {c : Int64} (h : f_X9_in ((f_X9_peek size at_ text).toInt64) 0 c = true) : at_ < size ∧ f_X9_peek size at_ text = text at_ - 48 := by
  by_cases h1 : size ≤ at_
  · exfalso
    have := (in_t h).1
    simp only [f_X9_peek, if_pos h1] at this
    exact absurd this (by decide)
  · refine ⟨by omega, ?_⟩
    by_cases h2 : f_X9_in ((text at_).toInt64) 48 57 = true
    · simp only [f_X9_peek, if_neg h1, if_pos h2]
    · exfalso
      have := (in_t h).1
      simp only [f_X9_peek, if_neg h1, if_neg h2] at this
      exact absurd this (by decide)
theorem takes_b {size at_ : Nat} {text : Nat → Int32} {most : Int32} (h : (f_X9_takes size at_ text most).1 = true) : (f_X9_takes size at_ text most).2 = at_ + 1 ∧ at_ < size ∧ f_X9_peek size at_ text = text at_ - 48 := by
  refine ⟨?_, peek_in (takes_t h)⟩
  simp only [f_X9_takes, if_pos (takes_t h)]
