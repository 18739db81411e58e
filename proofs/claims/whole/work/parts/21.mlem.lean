theorem in_t {a b c : Int64} (h : f_X9_in a b c = true) : b ≤ a ∧ a ≤ c := by
  unfold f_X9_in at h
  split at h
  · cases h
  · split at h
    · cases h
    · exact ⟨Int64.not_lt.mp (by assumption), Int64.not_lt.mp (by assumption)⟩
theorem in_iff {a b c : Int64} : f_X9_in a b c = true ↔ b ≤ a ∧ a ≤ c := by
  refine ⟨in_t, fun h => ?_⟩
  unfold f_X9_in
  rw [if_neg (Int64.not_lt.mpr h.1), if_neg (Int64.not_lt.mpr h.2)]
theorem inN_iff {P : Nat} {p : Int32} (hP : P < 2147483648) : f_X9_in p.toInt64 0 ((nI P - 1).toInt64) = true ↔ ∃ j, j < P ∧ p = nI j := by
  rw [in_iff, i64_0le, i64_le]
  constructor
  · rintro ⟨h1, h2⟩
    obtain ⟨j, hj, rfl⟩ := nI_of h1
    refine ⟨j, ?_, rfl⟩
    cases P with
    | zero => exact absurd h2 (by
        intro h
        have h3 : (nI j).toInt ≤ (nI 0 - 1).toInt := Int32.le_iff_toInt_le.mp h
        rw [nI_toInt hj] at h3
        have : (nI 0 - 1).toInt = -1 := by decide
        omega)
    | succ P =>
      rw [nI_pred] at h2
      have := (nI_le_ hj (by omega)).mp h2
      omega
  · rintro ⟨j, hj, rfl⟩
    refine ⟨nI_neg (by omega), ?_⟩
    cases P with
    | zero => omega
    | succ P =>
      rw [nI_pred]
      exact (nI_le_ (by omega) (by omega)).mpr (by omega)
theorem inN_e {P : Nat} {p : Int32} (hP : P < 2147483648) (h : f_X9_in p.toInt64 0 ((nI P - 1).toInt64) = true) : p = nI (tn p) := by
  obtain ⟨j, hj, rfl⟩ := (inN_iff hP).mp h
  rw [tn_nI (by omega)]
theorem inN_b {P : Nat} {p : Int32} (hP : P < 2147483648) (h : f_X9_in p.toInt64 0 ((nI P - 1).toInt64) = true) : tn p < P := by
  obtain ⟨j, hj, rfl⟩ := (inN_iff hP).mp h
  rw [tn_nI (by omega)]
  exact hj
theorem inC_iff {p : Int32} {l h : Int64} {lo hi : Nat} (h1 : l = (nI lo).toInt64) (h2 : h = (nI hi).toInt64) (h3 : lo < 2147483648 ∧ hi < 2147483648) : f_X9_in p.toInt64 l h = true ↔ ∃ j, lo ≤ j ∧ j ≤ hi ∧ p = nI j := by
  subst h1 h2
  rw [in_iff, i64_le, i64_le]
  constructor
  · rintro ⟨a, b⟩
    have h0 : ¬ p < 0 := fun z => nI_neg h3.1 (Int32.lt_of_le_of_lt a z)
    obtain ⟨j, hj, rfl⟩ := nI_of h0
    exact ⟨j, (nI_le_ h3.1 hj).mp a, (nI_le_ hj h3.2).mp b, rfl⟩
  · rintro ⟨j, a, b, rfl⟩
    exact ⟨(nI_le_ h3.1 (by omega)).mpr a, (nI_le_ (by omega) h3.2).mpr b⟩
theorem inC_e {p : Int32} {l h : Int64} {lo hi : Nat} (h1 : l = (nI lo).toInt64) (h2 : h = (nI hi).toInt64) (h3 : lo < 2147483648 ∧ hi < 2147483648) (hq : f_X9_in p.toInt64 l h = true) : p = nI (tn p) := by
  obtain ⟨j, a, b, rfl⟩ := (inC_iff h1 h2 h3).mp hq
  rw [tn_nI (by omega)]
theorem inC_b {p : Int32} {l h : Int64} {lo hi : Nat} (h1 : l = (nI lo).toInt64) (h2 : h = (nI hi).toInt64) (h3 : lo < 2147483648 ∧ hi < 2147483648) (hq : f_X9_in p.toInt64 l h = true) : lo ≤ tn p ∧ tn p ≤ hi := by
  obtain ⟨j, a, b, rfl⟩ := (inC_iff h1 h2 h3).mp hq
  rw [tn_nI (by omega)]
  exact ⟨a, b⟩
theorem noOne_iff {P : Nat} {p : Int32} (hP : P ≤ 6) : ¬ f_X9_noOne P p = true ↔ ∃ j, j < P ∧ p = nI j := by
  rw [← inN_iff (by omega)]
  unfold f_X9_noOne
  split <;> simp_all
theorem noHouse_iff {P : Nat} {p : Int32} (hP : P ≤ 6) : ¬ f_X9_noHouse P p = true ↔ ∃ j, j < P ∧ p = nI j := by
  rw [← inN_iff (by omega)]
  unfold f_X9_noHouse
  split <;> simp_all
theorem noOne_e {P : Nat} {p : Int32} (hP : P ≤ 6) (h : ¬ f_X9_noOne P p = true) : p = nI (tn p) := by
  obtain ⟨j, hj, rfl⟩ := (noOne_iff hP).mp h
  rw [tn_nI (by omega)]
theorem noOne_b {P : Nat} {p : Int32} (hP : P ≤ 6) (h : ¬ f_X9_noOne P p = true) : tn p < P := by
  obtain ⟨j, hj, rfl⟩ := (noOne_iff hP).mp h
  rw [tn_nI (by omega)]
  exact hj
theorem noHouse_e {P : Nat} {p : Int32} (hP : P ≤ 6) (h : ¬ f_X9_noHouse P p = true) : p = nI (tn p) := by
  obtain ⟨j, hj, rfl⟩ := (noHouse_iff hP).mp h
  rw [tn_nI (by omega)]
theorem noHouse_b {P : Nat} {p : Int32} (hP : P ≤ 6) (h : ¬ f_X9_noHouse P p = true) : tn p < P := by
  obtain ⟨j, hj, rfl⟩ := (noHouse_iff hP).mp h
  rw [tn_nI (by omega)]
  exact hj
