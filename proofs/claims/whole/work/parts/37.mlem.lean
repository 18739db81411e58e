theorem noOneN_b {P t : Nat} (hP : P ≤ 6) (ht : t < 2147483648) (h : ¬ f_X9_noOne P (nI t) = true) : t < P := by
  have := noOne_b hP h
  rw [tn_nI ht] at this
  exact this
theorem noHouseN_b {P t : Nat} (hP : P ≤ 6) (ht : t < 2147483648) (h : ¬ f_X9_noHouse P (nI t) = true) : t < P := by
  have := noHouse_b hP h
  rw [tn_nI ht] at this
  exact this
def b9 (n : Nat) (x : Int32) : Prop := x = -9 ∨ ∃ j, j < n ∧ x = nI j
theorem b9_e {n : Nat} {x : Int32} (h : b9 n x) (hn : n ≤ 6) (h9 : ¬ x = -9) : x = nI (tn x) := by
  obtain h | ⟨j, hj, rfl⟩ := h
  · exact absurd h h9
  · rw [tn_nI (by omega)]
theorem b9_b {n : Nat} {x : Int32} (h : b9 n x) (hn : n ≤ 6) (h9 : ¬ x = -9) : tn x < n := by
  obtain h | ⟨j, hj, rfl⟩ := h
  · exact absurd h h9
  · rw [tn_nI (by omega)]; exact hj
theorem voteOf_L {now : Nat → Int32} {tales : Nat → Int64} {p P : Nat} : ∀ (r k : Nat) (x : Int32), k + r = P → b9 P x → b9 P (f_X9_voteOf_L5 now tales p r k x) := by
  intro r
  induction r with
  | zero => intro k x _ h; exact h
  | succ r ih =>
    intro k x hk h
    simp only [f_X9_voteOf_L5]
    refine ih _ _ (by omega) ?_
    try simp only [f_X9_voteOf_x1]
    repeat' split
    all_goals first | exact h | exact Or.inr ⟨k, by omega, rfl⟩
theorem voteOf_9 {now : Nat → Int32} {tales : Nat → Int64} {p P : Nat} : b9 P (f_X9_voteOf P now tales p) := voteOf_L P 0 _ (by omega) (Or.inl rfl)
theorem vote_9 {now : Nat → Int32} {tales : Nat → Int64} {p P : Nat} {b : Prop} [Decidable b] : b9 P (if b then f_X9_voteOf P now tales p else (-9 : Int32)) := by
  split
  · exact voteOf_9
  · exact Or.inl rfl
theorem p3_b {by_ p : Nat} (hp : p < 6) (h : by_ = 3 ^ p) : 0 < by_ ∧ by_ ≤ 243 := by
  subst h
  match p, hp with
  | 0, _ => decide
  | 1, _ => decide
  | 2, _ => decide
  | 3, _ => decide
  | 4, _ => decide
  | 5, _ => decide
theorem p3_ix {by_ p k : Nat} (hp : p < 6) (h : by_ = 3 ^ p) (hk : k < 729) (h0 : k / by_ % 3 = 0) : k + 2 * by_ < 729 := by
  subst h
  match p, hp with
  | 0, _ => simp only [show 3 ^ 0 = 1 from rfl] at *; omega
  | 1, _ => simp only [show 3 ^ 1 = 3 from rfl] at *; omega
  | 2, _ => simp only [show 3 ^ 2 = 9 from rfl] at *; omega
  | 3, _ => simp only [show 3 ^ 3 = 27 from rfl] at *; omega
  | 4, _ => simp only [show 3 ^ 4 = 81 from rfl] at *; omega
  | 5, _ => simp only [show 3 ^ 5 = 243 from rfl] at *; omega
