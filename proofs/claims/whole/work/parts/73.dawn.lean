/-! a dawn, a hanging, a bolt; the chains of bites -/
theorem d4_at : ∀ (r k : Nat) (s : Int32) (y : Nat → Int32) (q c : Nat), c < 5 → (f_X9_dawns_L4 r k s y).2 (13 + 5 * q + c) = if k ≤ q ∧ q < k + r then (if c = 0 then y (13 + 5 * q + 0) ||| y (13 + 5 * q + 1) else if c = 1 ∨ c = 3 then 0 else y (13 + 5 * q + c)) else y (13 + 5 * q + c) := by
  intro r
  induction r with
  | zero => intro k s y q c _; rw [if_neg (by omega)]; rfl
  | succ r ih =>
    intro k s y q c hc
    simp only [f_X9_dawns_L4]
    rw [ih _ _ _ _ _ hc]
    by_cases e : q = k
    · subst e
      rw [if_neg (by omega), if_pos (by omega), upd_at, upd_at, upd_at]
      by_cases c0 : c = 0
      · rw [if_neg (by omega), if_neg (by omega), if_pos (by omega), if_pos c0]; rfl
      · rw [if_neg c0]
        by_cases c1 : c = 1
        · rw [if_neg (by omega), if_pos (by omega), if_pos (Or.inl c1)]
        · by_cases c3 : c = 3
          · rw [if_pos (by omega), if_pos (Or.inr c3)]
          · rw [if_neg (by omega), if_neg (by omega), if_neg (by omega), if_neg (by omega)]
    · have hy : ∀ c', c' < 5 → upd (upd (upd y (13 + 5 * k) (y (13 + 5 * k) ||| y (13 + 5 * k + 1))) (13 + 5 * k + 1) 0) (13 + 5 * k + 3) 0 (13 + 5 * q + c') = y (13 + 5 * q + c') := fun c' h => by
        rw [upd_at, upd_at, upd_at, if_neg (by omega), if_neg (by omega), if_neg (by omega)]
      rw [hy 0 (by omega), hy 1 (by omega), hy c hc]
      by_cases h : k ≤ q ∧ q < k + (r + 1)
      · rw [if_pos h, if_pos (by omega)]
      · rw [if_neg h, if_neg (by omega)]
theorem d4_lo : ∀ (r k : Nat) (s : Int32) (y : Nat → Int32) (i : Nat), i < 13 → (f_X9_dawns_L4 r k s y).2 i = y i := by
  intro r
  induction r with
  | zero => intro k s y i _; rfl
  | succ r ih =>
    intro k s y i hi
    simp only [f_X9_dawns_L4]
    rw [ih _ _ _ _ hi, upd_at, upd_at, upd_at, if_neg (by omega), if_neg (by omega), if_neg (by omega)]
theorem accP_congr {c d : Nat → Bool} : ∀ (r k : Nat) (s : Int32), (∀ i, k ≤ i → i < k + r → c i = d i) → accP c r k s = accP d r k s := by
  intro r
  induction r with
  | zero => intro k s _; rfl
  | succ r ih =>
    intro k s h
    simp only [accP]
    rw [h k (by omega) (by omega)]
    exact ih _ _ (fun i a b => h i (by omega) (by omega))
theorem d4_1 : ∀ (r k : Nat) (s : Int32) (y : Nat → Int32), (f_X9_dawns_L4 r k s y).1 = accP (fun i => decide (y (13 + 5 * i + 1) = 1)) r k s := by
  intro r
  induction r with
  | zero => intro k s y; rfl
  | succ r ih =>
    intro k s y
    simp only [f_X9_dawns_L4, accP, decide_eq_true_eq]
    rw [ih, or_if]
    refine accP_congr r (k + 1) _ fun i a b => ?_
    rw [upd_at, upd_at, upd_at, if_neg (by omega), if_neg (by omega), if_neg (by omega)]
theorem d86_at : ∀ (r k : Nat) (y : Nat → Int32) (i : Nat), (f_X9_dawns_L86 r k y) i = if 9 + k ≤ i ∧ i < 9 + k + r then 0 else y i := by
  intro r
  induction r with
  | zero => intro k y i; rw [if_neg (by omega)]; rfl
  | succ r ih =>
    intro k y i
    simp only [f_X9_dawns_L86]
    rw [ih, upd_at]
    by_cases e : i = 9 + k
    · rw [if_neg (by omega), if_pos e, if_pos (by omega)]
    · rw [if_neg e]
      by_cases h : 9 + k ≤ i ∧ i < 9 + k + (r + 1)
      · rw [if_pos h, if_pos (by omega)]
      · rw [if_neg h, if_neg (by omega)]
theorem nn_wolves (n : TN) : gN_wolves (f_X2_nextNight n).2 = gN_wolves n ||| gN_bitten n := rfl
theorem nn_bitten (n : TN) : gN_bitten (f_X2_nextNight n).2 = 0 := rfl
theorem nn_out (n : TN) : gN_out (f_X2_nextNight n).2 = 0 := rfl
theorem nn_tracks (n : TN) : gN_tracks (f_X2_nextNight n).2 = 0 := rfl
theorem nn_gone (n : TN) : gN_gone (f_X2_nextNight n).2 = gN_gone n := rfl
theorem nn_sheep (n : TN) : gN_sheep (f_X2_nextNight n).2 = gN_sheep n := rfl
theorem nn_biters (n : TN) : gN_biters (f_X2_nextNight n).2 = gN_biters n := rfl
theorem nn_number (n : TN) : gN_number (f_X2_nextNight n).2 = gN_number n + 1 := rfl
theorem nn_boltOf (n : TN) (x : Int32) : f_X2_boltOf (f_X2_nextNight n).2 x = f_X2_boltOf n x := rfl
theorem dawns_at (P : Nat) (a : Nat → Int32) (i : Nat) : (f_X9_dawns P a).2 i = if i = 0 then a 0 + 1 else if 9 ≤ i ∧ i < 13 then 0 else (f_X9_dawns_L4 P 0 0 a).2 i := by
  unfold f_X9_dawns
  dsimp only
  rw [upd_at, d86_at, d86_at, if_neg (show ¬ (9 + 0 ≤ 0 ∧ 0 < 9 + 0 + 4) by omega), d4_lo _ _ _ _ 0 (by omega)]
section DW
variable {n : TN} {a : Nat → Int32} {H P : Nat}
theorem dawn_res (R : NR P n a) (I : NI H P n) (hP : P ≤ 6) : (f_X9_dawns P a).1 = (f_X2_nextNight n).1 := by
  show (f_X9_dawns_L4 P 0 0 a).1 = gN_bitten n &&& (gN_wolves n ^^^ (-1))
  refine hb_iff fun i hi => ?_
  rw [d4_1, accP_0 (by omega), hb_and, hb_not, decide_eq_true_eq]
  simp only [Bool.and_eq_true, decide_eq_true_eq, Bool.not_eq_true']
  constructor
  · rintro ⟨h1, h2⟩
    have h3 : hb (gN_bitten n) i = true := bI_eq1.mp ((R.bitt (by omega)).symm.trans h2)
    exact ⟨h3, hi, I.2.1 i h3⟩
  · rintro ⟨h1, _, _⟩
    have hl : i < P := by
      refine Classical.byContradiction fun z => ?_
      rw [(I.1 i (by omega)).2.1] at h1; cases h1
    exact ⟨hl, (R.bitt (by omega)).trans (bI_eq1.mpr h1)⟩
theorem bI_or (x y : Bool) : bI x ||| bI y = bI (x || y) := by cases x <;> cases y <;> decide
theorem dawn_NR (R : NR P n a) (I : NI H P n) (hP : P ≤ 6) : NR P (f_X2_nextNight n).2 (f_X9_dawns P a).2 := by
  obtain ⟨r0, r1, r2, r3, r4, r5, r6, r7, r8⟩ := R
  have lo : ∀ q, P ≤ q → ¬ (0 ≤ q ∧ q < 0 + P) := fun q h => by omega
  refine ⟨?_, fun i hi => ?_, fun i hi => ?_, fun i hi => ?_, fun q hq => ?_, fun q hq => ?_, fun q hq => ?_, fun q hq => ?_, fun q hq => ?_⟩
  · rw [dawns_at, if_pos rfl, r0]; rfl
  · rw [dawns_at, if_neg (by omega), if_neg (by omega), d4_lo _ _ _ _ _ (by omega)]; exact r1 i hi
  · rw [dawns_at, if_neg (by omega), if_neg (by omega), d4_lo _ _ _ _ _ (by omega), nn_boltOf]; exact r2 i hi
  · rw [dawns_at, if_neg (by omega), if_pos (by omega), nn_tracks]; exact (cn0.mpr (cn_zero i (by omega))).symm
  · rw [dawns_at, if_neg (by omega), if_neg (by omega), d4_at _ _ _ _ _ _ (by omega), nn_wolves, hb_or]
    by_cases h : q < P
    · rw [if_pos (by omega), if_pos rfl, r4 q hq, r5 q hq, bI_or]
    · rw [if_neg (by omega), r4 q hq, (I.1 q (by omega)).2.1, Bool.or_false]
  · rw [dawns_at, if_neg (by omega), if_neg (by omega), d4_at _ _ _ _ _ _ (by omega), nn_bitten, hb_zero]
    by_cases h : q < P
    · rw [if_pos (by omega), if_neg (by omega), if_pos (Or.inl rfl)]; rfl
    · rw [if_neg (by omega), r5 q hq, (I.1 q (by omega)).2.1]
  · rw [dawns_at, if_neg (by omega), if_neg (by omega), d4_at _ _ _ _ _ _ (by omega), nn_gone]
    by_cases h : q < P
    · rw [if_pos (by omega), if_neg (by omega), if_neg (by omega), r6 q hq]
    · rw [if_neg (by omega), r6 q hq]
  · rw [dawns_at, if_neg (by omega), if_neg (by omega), d4_at _ _ _ _ _ _ (by omega), nn_out, hb_zero]
    by_cases h : q < P
    · rw [if_pos (by omega), if_neg (by omega), if_pos (Or.inr rfl)]; rfl
    · rw [if_neg (by omega), r7 q hq, (I.1 q (by omega)).2.2.2]
  · rw [dawns_at, if_neg (by omega), if_neg (by omega), d4_at _ _ _ _ _ _ (by omega)]
    have e : f_X2_biterOf (f_X2_nextNight n).2 (nI q) = f_X2_biterOf n (nI q) := rfl
    rw [e]
    by_cases h : q < P
    · rw [if_pos (by omega), if_neg (by omega), if_neg (by omega), r8 q hq]
    · rw [if_neg (by omega), r8 q hq]
theorem wb_nn (n : TN) : wb (f_X2_nextNight n).2 = wb n := by
  funext q
  unfold wb
  rw [nn_wolves, nn_bitten, hb_zero, hb_or, Bool.or_false]
theorem cnt0 : ∀ n, fa_cnt (fun _ => false) n = 0 := by
  intro n
  induction n with
  | zero => rfl
  | succ n ih => rw [fa_cnt_no rfl, ih]
theorem dawn_NI (I : NI H P n) : NI H P (f_X2_nextNight n).2 := by
  obtain ⟨i1, i2, i3, i4, d, i5⟩ := I
  refine ⟨fun q hq => ?_, fun q hq => ?_, i3, fun h hh => ?_, d, ?_⟩
  · rw [nn_wolves, nn_bitten, nn_out, nn_gone, hb_or, hb_zero, (i1 q hq).1, (i1 q hq).2.1]
    exact ⟨rfl, rfl, (i1 q hq).2.2.1, rfl⟩
  · rw [nn_bitten, hb_zero] at hq; cases hq
  · rw [nn_tracks, cn_zero h (by omega)]; exact Nat.zero_le _
  · rw [wb_nn, nn_biters]
    intro q hq
    refine ⟨?_, (i5 q hq).2⟩
    rcases (i5 q hq).1 with z | ⟨b, z1, z2, z3, z4, z5⟩
    · exact Or.inl z
    · exact Or.inr ⟨b, z1, z2, by rw [nn_wolves, hb_or, z3]; rfl, z4, z5⟩
theorem hang_NR (R : NR P n a) {p : Nat} (hp : p < 6) : NR P (sN_gone n (gN_gone n ||| f_X8_bit (nI p))) (upd a (13 + 5 * p + 2) 1) := by
  obtain ⟨r0, r1, r2, r3, r4, r5, r6, r7, r8⟩ := R
  refine ⟨?_, fun i hi => ?_, fun i hi => ?_, fun i hi => ?_, fun q hq => ?_, fun q hq => ?_, fun q hq => ?_, fun q hq => ?_, fun q hq => ?_⟩
  · rw [upd_at, if_neg (by omega)]; exact r0
  · rw [upd_at, if_neg (by omega)]; exact r1 i hi
  · rw [upd_at, if_neg (by omega)]; exact r2 i hi
  · rw [upd_at, if_neg (by omega)]; exact r3 i hi
  · rw [upd_at, if_neg (by omega)]; exact r4 q hq
  · rw [upd_at, if_neg (by omega)]; exact r5 q hq
  · rw [upd_at, show gN_gone (sN_gone n (gN_gone n ||| f_X8_bit (nI p))) = gN_gone n ||| f_X8_bit (nI p) from rfl, hb_set (by omega)]
    by_cases e : q = p
    · subst e; rw [if_pos rfl]; simp [bI]
    · rw [if_neg (by omega), r6 q hq]; simp [e]
  · rw [upd_at, if_neg (by omega)]; exact r7 q hq
  · rw [upd_at, if_neg (by omega)]; exact r8 q hq
theorem hang_NI (I : NI H P n) {p : Nat} (hp : p < P) (hP : P ≤ 6) : NI H P (sN_gone n (gN_gone n ||| f_X8_bit (nI p))) := by
  obtain ⟨i1, i2, i3, i4, d, i5⟩ := I
  refine ⟨fun q hq => ⟨(i1 q hq).1, (i1 q hq).2.1, ?_, (i1 q hq).2.2.2⟩, i2, i3, i4, d, i5⟩
  rw [show gN_gone (sN_gone n (gN_gone n ||| f_X8_bit (nI p))) = gN_gone n ||| f_X8_bit (nI p) from rfl, hb_set (by omega), (i1 q hq).2.2.1]
  simp
  omega
theorem bolt_at (n : TN) {h b j : Nat} (hh : h < 4) (hj : j < 4) (hb_ : b ≤ 2) : f_X2_boltOf (f_X2_setBolt n (nI h) (nI b)) (nI j) = if j = h then nI b else f_X2_boltOf n (nI j) := by
  have e1 : gN_barred (f_X2_setBolt n (nI h) (nI b)) = if nI b = 2 then gN_barred n ||| f_X8_bit (nI h) else gN_barred n &&& (f_X8_bit (nI h) ^^^ (-1)) := rfl
  have e2 : gN_bolted (f_X2_setBolt n (nI h) (nI b)) = if nI b = 1 then gN_bolted n ||| f_X8_bit (nI h) else gN_bolted n &&& (f_X8_bit (nI h) ^^^ (-1)) := rfl
  unfold f_X2_boltOf
  rw [e1, e2, has_hb (by omega), has_hb (by omega), has_hb (by omega), has_hb (by omega)]
  have hc : ∀ x : Int32, hb (x &&& (f_X8_bit (nI h) ^^^ (-1))) j = (hb x j && !decide (j = h)) := fun x => by
    rw [hb_and, hb_not, hb_bit (by omega), show decide (j < 32) = true from decide_eq_true (by omega), Bool.true_and]
  have hd : ∀ x : Int32, hb (x ||| f_X8_bit (nI h)) j = (hb x j || decide (j = h)) := fun x => hb_set (by omega) j
  have hb3 : b = 0 ∨ b = 1 ∨ b = 2 := by omega
  by_cases e : j = h
  · rw [if_pos e]
    rcases hb3 with rfl | rfl | rfl
    · rw [if_neg (show ¬ (nI 0 : Int32) = 2 by decide), if_neg (show ¬ (nI 0 : Int32) = 1 by decide), hc, hc, decide_eq_true e]; cases hb (gN_barred n) j <;> cases hb (gN_bolted n) j <;> decide
    · rw [if_neg (show ¬ (nI 1 : Int32) = 2 by decide), if_pos (show (nI 1 : Int32) = 1 by decide), hc, hd, decide_eq_true e]; cases hb (gN_barred n) j <;> cases hb (gN_bolted n) j <;> decide
    · rw [if_pos (show (nI 2 : Int32) = 2 by decide), if_neg (show ¬ (nI 2 : Int32) = 1 by decide), hd, hc, decide_eq_true e]; cases hb (gN_barred n) j <;> cases hb (gN_bolted n) j <;> decide
  · rw [if_neg e]
    rcases hb3 with rfl | rfl | rfl
    · rw [if_neg (show ¬ (nI 0 : Int32) = 2 by decide), if_neg (show ¬ (nI 0 : Int32) = 1 by decide), hc, hc, decide_eq_false e]; cases hb (gN_barred n) j <;> cases hb (gN_bolted n) j <;> decide
    · rw [if_neg (show ¬ (nI 1 : Int32) = 2 by decide), if_pos (show (nI 1 : Int32) = 1 by decide), hc, hd, decide_eq_false e]; cases hb (gN_barred n) j <;> cases hb (gN_bolted n) j <;> decide
    · rw [if_pos (show (nI 2 : Int32) = 2 by decide), if_neg (show ¬ (nI 2 : Int32) = 1 by decide), hd, hc, decide_eq_false e]; cases hb (gN_barred n) j <;> cases hb (gN_bolted n) j <;> decide
theorem bolt_NR (R : NR P n a) {h b : Nat} (hh : h < 4) (hb_ : b ≤ 2) : NR P (f_X2_setBolt n (nI h) (nI b)) (upd a (5 + h) (nI b)) := by
  obtain ⟨r0, r1, r2, r3, r4, r5, r6, r7, r8⟩ := R
  refine ⟨?_, fun i hi => ?_, fun i hi => ?_, fun i hi => ?_, fun q hq => ?_, fun q hq => ?_, fun q hq => ?_, fun q hq => ?_, fun q hq => ?_⟩
  · rw [upd_at, if_neg (by omega)]; exact r0
  · rw [upd_at, if_neg (by omega)]; exact r1 i hi
  · rw [upd_at, bolt_at n hh hi hb_]
    by_cases e : i = h
    · rw [if_pos (by omega), if_pos e]
    · rw [if_neg (by omega), if_neg e]; exact r2 i hi
  · rw [upd_at, if_neg (by omega)]; exact r3 i hi
  · rw [upd_at, if_neg (by omega)]; exact r4 q hq
  · rw [upd_at, if_neg (by omega)]; exact r5 q hq
  · rw [upd_at, if_neg (by omega)]; exact r6 q hq
  · rw [upd_at, if_neg (by omega)]; exact r7 q hq
  · rw [upd_at, if_neg (by omega)]; exact r8 q hq
theorem bolt_NI (I : NI H P n) (h b : Int32) : NI H P (f_X2_setBolt n h b) := I
/-- the chains of bites end, and both sides follow them alike -/
theorem chain {k : Nat} (R : NR P n a) (hP : P ≤ 6) {d : Nat → Nat} (i5 : ∀ q, q < P → ((cn (gN_biters n) q = 0 ∧ d q = 0) ∨ ∃ b, b < P ∧ cn (gN_biters n) q = b + 1 ∧ hb (gN_wolves n) b = true ∧ d q = d b + 1 ∧ wb n q = true)) : ∀ (m q : Nat), q < P → d q ≤ m → ∀ (r s : Nat), m ≤ r → m ≤ s →
    f_X2_firstOf_L4 n r k (nI q) = nI (f_X9_firstOf_L2 a s q) ∧ f_X9_firstOf_L2_E a s q = true ∧ (∀ x, (f_X2_bitesAhead_L7 n r k (nI q) x).2 = (f_X9_lineOf_L4 a s x q).1) ∧ (∀ x, f_X9_lineOf_L4_E a s x q = true) ∧ f_X9_firstOf_L2 a s q < P := by
  intro m
  induction m generalizing k with
  | zero =>
    intro q hq hd r s hr hs
    rcases i5 q hq with ⟨h1, _⟩ | ⟨b, _, _, _, h4, _⟩
    · have e1 : f_X2_biterOf n (nI q) = -9 := by rw [biterOf_cn, if_pos h1]
      have e2 : f_X9_of a q 4 = -9 := by rw [R.biter (by omega), if_pos hq, e1]
      refine ⟨?_, ?_, fun x => ?_, fun x => ?_, ?_⟩
      · cases r <;> cases s <;> simp only [f_X2_firstOf_L4, f_X9_firstOf_L2, if_pos e1, if_pos e2]
      · cases s <;> simp only [f_X9_firstOf_L2_E, if_pos e2]
      · cases r <;> cases s <;> simp only [f_X2_bitesAhead_L7, f_X9_lineOf_L4, if_pos e1, if_pos e2]
      · cases s <;> simp only [f_X9_lineOf_L4_E, if_pos e2]
      · cases s <;> simp only [f_X9_firstOf_L2, if_pos e2] <;> exact hq
    · omega
  | succ m ih =>
    intro q hq hd r s hr hs
    rcases i5 q hq with ⟨h1, _⟩ | ⟨b, h1, h2, _, h4, _⟩
    · have e1 : f_X2_biterOf n (nI q) = -9 := by rw [biterOf_cn, if_pos h1]
      have e2 : f_X9_of a q 4 = -9 := by rw [R.biter (by omega), if_pos hq, e1]
      refine ⟨?_, ?_, fun x => ?_, fun x => ?_, ?_⟩
      · cases r <;> cases s <;> simp only [f_X2_firstOf_L4, f_X9_firstOf_L2, if_pos e1, if_pos e2]
      · cases s <;> simp only [f_X9_firstOf_L2_E, if_pos e2]
      · cases r <;> cases s <;> simp only [f_X2_bitesAhead_L7, f_X9_lineOf_L4, if_pos e1, if_pos e2]
      · cases s <;> simp only [f_X9_lineOf_L4_E, if_pos e2]
      · cases s <;> simp only [f_X9_firstOf_L2, if_pos e2] <;> exact hq
    · have e1 : f_X2_biterOf n (nI q) = nI b := by rw [biterOf_cn, if_neg (by omega), h2]; rfl
      have e2 : f_X9_of a q 4 = nI b := by rw [R.biter (by omega), if_pos hq, e1]
      have hb9 : ¬ nI b = -9 := nI9 (by omega)
      cases r with
      | zero => omega
      | succ r =>
        cases s with
        | zero => omega
        | succ s =>
          obtain ⟨j1, j2, j3, j4, j5⟩ := ih (k := k + 1) b h1 (by omega) r s (by omega) (by omega)
          have et : tn (nI b) = b := tn_nI (by omega)
          refine ⟨?_, ?_, fun x => ?_, fun x => ?_, ?_⟩
          · simp only [f_X2_firstOf_L4, f_X9_firstOf_L2, e1, e2, if_neg hb9, et]; exact j1
          · simp only [f_X9_firstOf_L2_E, e2, if_neg hb9, et]; exact j2
          · simp only [f_X2_bitesAhead_L7, f_X9_lineOf_L4, e1, e2, if_neg hb9, et]; exact j3 (x + 1)
          · simp only [f_X9_lineOf_L4_E, e2, if_neg hb9, et]; exact j4 (x + 1)
          · simp only [f_X9_firstOf_L2, e2, if_neg hb9, et]; exact j5
theorem depth5 (I : NI H P n) : ∃ d : Nat → Nat, (∀ q, q < P → ((cn (gN_biters n) q = 0 ∧ d q = 0) ∨ ∃ b, b < P ∧ cn (gN_biters n) q = b + 1 ∧ hb (gN_wolves n) b = true ∧ d q = d b + 1 ∧ wb n q = true)) ∧ ∀ q, q < P → d q ≤ 5 := by
  obtain ⟨_, _, _, _, d, i5⟩ := I
  refine ⟨d, fun q hq => (i5 q hq).1, fun q hq => ?_⟩
  rcases (i5 q hq).1 with ⟨_, h⟩ | ⟨b, _, _, _, _, h⟩
  · omega
  · have := (i5 q hq).2 h
    have := fa_cnt_le (wb n) 6
    omega
theorem first_eq (R : NR P n a) (I : NI H P n) (hP : P ≤ 6) {q : Nat} (hq : q < P) : f_X2_firstOf n (nI q) = f_X9_firstOf a q := by
  obtain ⟨d, h1, h2⟩ := depth5 I
  exact (chain (k := 0) R hP h1 5 q hq (h2 q hq) 6 8 (by omega) (by omega)).1
theorem first_end (R : NR P n a) (I : NI H P n) (hP : P ≤ 6) {q : Nat} (hq : q < P) : f_X9_firstOf_L2_E a fuelC q = true := by
  obtain ⟨d, h1, h2⟩ := depth5 I
  exact (chain (k := 0) R hP h1 5 q hq (h2 q hq) 6 8 (by omega) (by omega)).2.1
theorem line_eq (R : NR P n a) (I : NI H P n) (hP : P ≤ 6) {q : Nat} (hq : q < P) : f_X2_bitesAhead n (nI q) = f_X9_lineOf a q := by
  obtain ⟨d, h1, h2⟩ := depth5 I
  exact (chain (k := 0) R hP h1 5 q hq (h2 q hq) 6 8 (by omega) (by omega)).2.2.1 0
theorem line_end (R : NR P n a) (I : NI H P n) (hP : P ≤ 6) {q : Nat} (hq : q < P) : f_X9_lineOf_L4_E a fuelC 0 q = true := by
  obtain ⟨d, h1, h2⟩ := depth5 I
  exact (chain (k := 0) R hP h1 5 q hq (h2 q hq) 6 8 (by omega) (by omega)).2.2.2.1 0
end DW
