def pw (h : Nat) : Nat := 2 ^ h
theorem pw_le {h : Nat} (hh : h ≤ 4) : pw h ≤ 16 := by
  match h, hh with
  | 0, _ => decide
  | 1, _ => decide
  | 2, _ => decide
  | 3, _ => decide
  | 4, _ => decide
  | h + 5, hh => omega
theorem pw_e {h : Nat} (hh : h ≤ 4) : (1 : Int32) <<< (nI h &&& 31) = nI (pw h) := by
  match h, hh with
  | 0, _ => decide
  | 1, _ => decide
  | 2, _ => decide
  | 3, _ => decide
  | 4, _ => decide
  | h + 5, hh => omega
theorem nw34_le {H : Nat} {now home path : Nat → Int32} {p : Nat} (hH : H ≤ 4) : ∀ (n : Nat) (w : Nat → Int32) (v : Nat), w p = nI v → v < 100 → ∃ u, u < 200 ∧ v ≤ u ∧ u ≤ v + n ∧ f_X9_nextWays_L34 H now home path p n w p = nI u := by
  intro n
  induction n with
  | zero => intro w v h1 h2; exact ⟨v, by omega, by omega, by omega, h1⟩
  | succ n ih =>
    intro w v h1 h2
    by_cases hc : nI H < w p
    · exact ⟨v, by omega, by omega, by omega, by simp only [f_X9_nextWays_L34, if_pos hc]; exact h1⟩
    · have hv : v ≤ H := by
        rw [h1] at hc
        exact Nat.le_of_not_lt fun z => hc ((nI_lt_ (by omega) (by omega)).mpr z)
      simp only [f_X9_nextWays_L34, if_neg hc]
      split
      · exact ⟨v, by omega, by omega, by omega, h1⟩
      · obtain ⟨u, a, b, c, e⟩ := ih (upd w p (w p + 1)) (v + 1) (by simp [upd, h1]; exact nI_1 v) (by omega)
        exact ⟨u, a, by omega, by omega, e⟩
theorem nw_OK {H P : Nat} {now home path : Nat → Int32} {set : Int32} (hH : H ≤ 4) : ∀ (r k : Nat) (w : Nat → Int32), k + r ≤ 6 → wOK w → wOK (f_X9_nextWays_L2 H now home path set r k w).2 := by
  intro r
  induction r with
  | zero => intro k w _ hw; exact hw
  | succ r ih =>
    intro k w hk hw
    simp only [f_X9_nextWays_L2]
    split
    · split
      · exact ih _ _ (by omega) (nw_K hw)
      · rename_i hlt
        intro q hq
        by_cases h : q = k
        · subst h
          obtain ⟨v, hv, h1⟩ := hw q hq
          obtain ⟨u, a, b, c, e⟩ := nw34_le (now := now) (home := home) (path := path) (p := q) hH fuelN (upd w q (w q + 1)) (v + 1) (by simp [upd, h1]; exact nI_1 v) (by omega)
          refine ⟨u, ?_, e⟩
          rw [e] at hlt
          have : u ≤ H := Nat.le_of_not_lt fun z => hlt ((nI_lt_ (by omega) (by omega)).mpr z)
          omega
        · obtain ⟨v, hv, h1⟩ := hw q hq
          exact ⟨v, hv, by show f_X9_nextWays_L34 H now home path k fuelN _ q = _; rw [nw34_o h]; simp [upd, h, h1]⟩
    · exact ih _ _ (by omega) hw
theorem nextWays_OK {H P : Nat} {now home path went : Nat → Int32} {set : Int32} (hH : H ≤ 4) (hP : P ≤ 6) (hw : wOK went) : wOK (f_X9_nextWays H P now home path went set).2 := nw_OK (P := P) hH P 0 went (by omega) hw
theorem wOK_0 {w : Nat → Int32} (h : ∀ q, q < 6 → w q = 0) : wOK w := fun q hq => ⟨0, by omega, h q hq⟩
