theorem bits_ne {x : Int32} (h : isS 16 x) (hn : ¬ x = 0) : ¬ (f_X9_bits x).toInt64 = 0 := by
  obtain ⟨s, hs, rfl⟩ := h
  have : ∀ s : Fin 16, ¬ nI s.1 = 0 → ¬ (f_X9_bits (nI s.1)).toInt64 = 0 := by decide +kernel
  exact this ⟨s, hs⟩ hn
theorem bits_pos {x : Int32} (h : isS 16 x) (hn : ¬ x = 0) : 0 < tn (f_X9_bits x) := by
  obtain ⟨s, hs, rfl⟩ := h
  have : ∀ s : Fin 16, ¬ nI s.1 = 0 → 0 < tn (f_X9_bits (nI s.1)) := by decide +kernel
  exact this ⟨s, hs⟩ hn
theorem lushr33 (d : Int64) : ∃ a, a < 2147483648 ∧ lushr d 33 = lN a := by
  refine ⟨(d.toUInt64 >>> 33).toNat, ?_, ?_⟩
  · rw [UInt64.toNat_shiftRight]
    have := d.toUInt64.toNat_lt
    show _ >>> (33 % 64) < _
    rw [Nat.shiftRight_eq_div_pow, show 2 ^ (33 % 64) = 8589934592 from by decide]
    omega
  · unfold lushr lN
    rw [show ((33 : Int32).toInt64.toUInt64 &&& Int64.toUInt64 63) = 33 from by decide]
    show (⟨d.toUInt64 >>> 33⟩ : Int64) = ⟨UInt64.ofNat (d.toUInt64 >>> 33).toNat⟩
    rw [UInt64.ofNat_toNat]
theorem yr_e {x : Int32} (h : isS 16 x) (hn : ¬ x = 0) (d : Int64) : (lushr d 33 - lushr d 33 / (f_X9_bits x).toInt64 * (f_X9_bits x).toInt64).toInt32 = nI (tn ((lushr d 33 - lushr d 33 / (f_X9_bits x).toInt64 * (f_X9_bits x).toInt64).toInt32)) ∧ tn ((lushr d 33 - lushr d 33 / (f_X9_bits x).toInt64 * (f_X9_bits x).toInt64).toInt32) < tn (f_X9_bits x) := by
  obtain ⟨a, ha, e⟩ := lushr33 d
  obtain ⟨b1, b2⟩ := bits_S h
  have hp := bits_pos h hn
  generalize hm : tn (f_X9_bits x) = m at *
  rw [b1, e, nI_l (by omega), pk_lRem (by omega) hp (by omega), lN_i]
  have h3 := Nat.mod_lt a hp
  rw [tn_nI (by omega)]
  exact ⟨rfl, h3⟩
theorem waysNow_S {H : Nat} {now home path : Nat → Int32} (hH : H ≤ 4) : ∀ (r k : Nat) (x : Nat), x * 4 ^ r ≤ 4096 → isS 4097 (f_X9_waysNow_L4 H now home path r k (nI x)) := by
  intro r
  induction r with
  | zero => intro k x h; exact ⟨x, by omega, rfl⟩
  | succ r ih =>
    intro k x h
    obtain ⟨e1, e2⟩ := bits_S (mayOf_S (p := k) (now := now) (home := home) (path := path) hH)
    simp only [f_X9_waysNow_L4]
    have h4 : x * 4 * 4 ^ r ≤ 4096 := by rw [Nat.pow_succ] at h; rw [Nat.mul_assoc, Nat.mul_comm 4]; exact h
    have hm : ∀ y, y ≤ 4 → isS 4097 (f_X9_waysNow_L4 H now home path r (k + 1) (nI x * nI y)) := fun y hy => by
      rw [pk_mul]
      exact ih _ _ (Nat.le_trans (Nat.mul_le_mul_right _ (Nat.mul_le_mul_left _ hy)) h4)
    split
    · exact hm 1 (by omega)
    · rw [e1]
      exact hm _ e2
theorem ways_S {H P : Nat} {now home path : Nat → Int32} (hH : H ≤ 4) (hP : P ≤ 6) : isS 4097 (f_X9_waysNow H P now home path) := by
  refine waysNow_S hH P 0 1 ?_
  rw [Nat.one_mul]
  exact Nat.le_trans (Nat.pow_le_pow_right (by decide) hP) (by decide)
theorem ways_e {H P : Nat} {now home path : Nat → Int32} (hH : H ≤ 4) (hP : P ≤ 6) : f_X9_waysNow H P now home path = nI (tn (f_X9_waysNow H P now home path)) := by
  obtain ⟨s, hs, h⟩ := ways_S (now := now) (home := home) (path := path) hH hP
  rw [h, tn_nI (by omega)]
theorem ways_b {H P : Nat} {now home path : Nat → Int32} (hH : H ≤ 4) (hP : P ≤ 6) : tn (f_X9_waysNow H P now home path) ≤ 4096 := by
  obtain ⟨s, hs, h⟩ := ways_S (now := now) (home := home) (path := path) hH hP
  rw [h, tn_nI (by omega)]; omega
