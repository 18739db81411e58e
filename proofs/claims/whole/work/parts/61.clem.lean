theorem i32_dec {n : Nat} (h : 1 ≤ n) : nI n + Int32.ofInt (-1) = nI (n - 1) := by
  rw [i32_m1]
  exact pk_sub (b := 1) h
theorem app_l {l r : Nat} {b : Nat → Int32} {p : Int32} (h : l + (r + 1) ≤ 96) : (f_X6_append l b p).1 + r ≤ 96 := by
  unfold f_X6_append
  dsimp only
  split <;> omega
theorem i64_ne {x : Int32} (h : ¬ x = 0) : ¬ x.toInt64 = 0 := fun e => h (by
  have h1 := congrArg Int64.toInt e
  rw [Int32.toInt_toInt64] at h1
  exact Int32.toInt_inj.mp (h1.trans (by decide)))
theorem c18_e {n : Nat} {x : Int32} (h1 : ¬ x < 1) (h2 : ¬ nI n < x) (hn : n < 100) : x = nI (tn x) ∧ 1 ≤ tn x ∧ tn x ≤ n := by
  have h0 : ¬ x < 0 := fun z => h1 (Int32.lt_trans z (by decide))
  obtain ⟨j, hj, rfl⟩ := nI_of h0
  rw [tn_nI hj]
  refine ⟨rfl, ?_, ?_⟩
  · exact Nat.le_of_not_lt fun z => h1 ((nI_lt_ (a := j) (b := 1) hj (by omega)).mpr z)
  · exact Nat.le_of_not_lt fun z => h2 ((nI_lt_ (by omega) hj).mpr z)
