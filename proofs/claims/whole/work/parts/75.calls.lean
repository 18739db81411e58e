/-! more calls -/
theorem s_at {row : Nat → Int32} {N k : Nat} (hk : k < N) (hN : N < 2147483648) : f_X8_at row N (nI k) = row k := by
  unfold f_X8_at
  rw [if_neg (nI_neg (by omega)), if_neg (fun z => by have := (nI_le_ hN (by omega)).mp z; omega), nI_cl (by omega)]
theorem s_put {row : Nat → Int32} {N k : Nat} {x : Int32} (hk : k < N) (hN : N < 2147483648) : f_X8_put row N (nI k) x = upd row k x := by
  unfold f_X8_put
  rw [if_neg (nI_neg (by omega)), if_neg (fun z => by have := (nI_le_ hN (by omega)).mp z; omega), nI_cl (by omega)]
theorem SR_add {sc : Nat} {kinds moons places values sight : Nat → Int32} (S : SR sc kinds moons places values sight) {k m p x : Int32} (hk : SK k m p x) :
    (f_X4_add sc kinds moons places values k m p x).1 = (f_X9_sees sc sight k m p x).1 ∧ (f_X4_add sc kinds moons places values k m p x).2.1 = (f_X9_sees sc sight k m p x).2.1 ∧ SR (f_X4_add sc kinds moons places values k m p x).2.1 (f_X4_add sc kinds moons places values k m p x).2.2.1 (f_X4_add sc kinds moons places values k m p x).2.2.2.1 (f_X4_add sc kinds moons places values k m p x).2.2.2.2.1 (f_X4_add sc kinds moons places values k m p x).2.2.2.2.2 (f_X9_sees sc sight k m p x).2.2 := by
  obtain ⟨h6, hs⟩ := S
  unfold f_X4_add f_X9_sees
  by_cases c : sc < 6
  · rw [if_pos c, if_neg (show ¬ sc = 6 by omega)]
    dsimp only
    rw [s_put c (by omega), s_put c (by omega), s_put c (by omega), s_put c (by omega)]
    refine ⟨rfl, rfl, by omega, fun i hi => ?_⟩
    simp only [upd_at]
    by_cases e : i = sc
    · subst e
      rw [if_neg (show ¬ 4 * i = 4 * i + 3 by omega), if_neg (show ¬ 4 * i = 4 * i + 2 by omega), if_neg (show ¬ 4 * i = 4 * i + 1 by omega), if_neg (show ¬ 4 * i + 1 = 4 * i + 3 by omega), if_neg (show ¬ 4 * i + 1 = 4 * i + 2 by omega), if_neg (show ¬ 4 * i + 2 = 4 * i + 3 by omega)]
      simp only [if_true]
      exact ⟨trivial, trivial, trivial, trivial, hk⟩
    · have h := hs i (by omega)
      rw [if_neg e, if_neg e, if_neg e, if_neg e]
      rw [if_neg (show ¬ 4 * i = 4 * sc + 3 by omega), if_neg (show ¬ 4 * i = 4 * sc + 2 by omega), if_neg (show ¬ 4 * i = 4 * sc + 1 by omega), if_neg (show ¬ 4 * i = 4 * sc by omega)]
      rw [if_neg (show ¬ 4 * i + 1 = 4 * sc + 3 by omega), if_neg (show ¬ 4 * i + 1 = 4 * sc + 2 by omega), if_neg (show ¬ 4 * i + 1 = 4 * sc + 1 by omega), if_neg (show ¬ 4 * i + 1 = 4 * sc by omega)]
      rw [if_neg (show ¬ 4 * i + 2 = 4 * sc + 3 by omega), if_neg (show ¬ 4 * i + 2 = 4 * sc + 2 by omega), if_neg (show ¬ 4 * i + 2 = 4 * sc + 1 by omega), if_neg (show ¬ 4 * i + 2 = 4 * sc by omega)]
      rw [if_neg (show ¬ 4 * i + 3 = 4 * sc + 3 by omega), if_neg (show ¬ 4 * i + 3 = 4 * sc + 2 by omega), if_neg (show ¬ 4 * i + 3 = 4 * sc + 1 by omega), if_neg (show ¬ 4 * i + 3 = 4 * sc by omega)]
      exact h
  · rw [if_neg c, if_pos (show sc = 6 by omega)]
    exact ⟨rfl, rfl, h6, hs⟩
theorem moon_ex (p : Int32) : f_X9_in p.toInt64 0 2 = true ↔ ¬ f_X8_noMoon p = true := by
  have hin := inI p 0 2
  rw [show (0 : Int32).toInt64 = 0 from rfl, show (2 : Int32).toInt64 = 2 from rfl] at hin
  rw [hin]
  unfold f_X8_noMoon
  by_cases c : p < 0
  · rw [if_pos c]; simp [c]
  · rw [if_neg c]
    obtain ⟨j, hj, rfl⟩ := nI_of c
    by_cases c2 : nI j < 3
    · rw [if_pos c2]
      have h2 : ¬ (2 : Int32) < nI j := fun z => by
        have h1 := (nI_lt_ (a := j) (b := 3) hj (by omega)).mp c2
        have h3 := (nI_lt_ (a := 2) (b := j) (by omega) hj).mp z
        omega
      simp [c, h2]
    · rw [if_neg c2]
      have h2 : (2 : Int32) < nI j := (nI_lt_ (a := 2) (b := j) (by omega) hj).mpr (by
        have h1 : ¬ j < 3 := fun z => c2 ((nI_lt_ (a := j) (b := 3) hj (by omega)).mpr z)
        omega)
      simp [h2]
theorem moon_j {p : Int32} (h : ¬ f_X8_noMoon p = true) : ∃ j, j < 3 ∧ p = nI j := by
  unfold f_X8_noMoon at h
  by_cases c : p < 0
  · rw [if_pos c] at h; exact absurd rfl h
  · rw [if_neg c] at h
    obtain ⟨j, hj, rfl⟩ := nI_of c
    by_cases c2 : nI j < 3
    · exact ⟨j, (nI_lt_ (a := j) (b := 3) hj (by omega)).mp c2, rfl⟩
    · rw [if_neg c2] at h; exact absurd rfl h
theorem bIif (b : Bool) : bI (if b = true then true else false) = bI b := by cases b <;> rfl
theorem accI (n : TN) (p1 : Int32) : ∀ (r k : Nat) (s : Int32), f_X8_brood_L14 n p1 r k s = accP (fun i => decide (f_X2_firstOf n (nI i) = p1)) r k s := by
  intro r
  induction r with
  | zero => intro k s; rfl
  | succ r ih => intro k s; simp only [f_X8_brood_L14, accP, decide_eq_true_eq]; rw [ih]
theorem accJ (a : Nat → Int32) (p1 : Int32) : ∀ (r k : Nat) (s : Int32), f_X9_brood_L19 a p1 r k s = accP (fun i => decide (f_X9_firstOf a i = nI (tn p1))) r k s := by
  intro r
  induction r with
  | zero => intro k s; rfl
  | succ r ih => intro k s; simp only [f_X9_brood_L19, accP, decide_eq_true_eq]; rw [ih, or_if]; rfl
theorem nib {v : Int64} {r j : Nat} (hr : r < 8) : hb ((((lshr v (nI (8 * r))) &&& 255).toInt32)) j = hb ((lushr v (nI (8 * r))).toInt32 &&& 255) j := by
  have h1 : ∀ r, r < 8 → ((nI (8 * r)).toInt64 &&& 63).toBitVec.smod 64 = BitVec.ofNat 64 (8 * r) := by decide +kernel
  have h2 : ∀ i, i < 8 → (((nI (8 * i)).toInt64.toUInt64 &&& Int64.toUInt64 63).toBitVec % 64).toNat = 8 * i := by decide +kernel
  by_cases hj : j < 32
  · rw [hb_and, hb_255 j hj]
    unfold hb lshr lushr
    rw [Int64.toBitVec_toInt32, BitVec.getLsbD_signExtend, Int64.toBitVec_and, BitVec.getLsbD_and, l255 j (by omega), Int64.toBitVec_shiftRight, h1 r hr]
    rw [Int64.toBitVec_toInt32, BitVec.getLsbD_signExtend, UInt64.toBitVec_toInt64, UInt64.toBitVec_shiftRight, BitVec.ushiftRight_eq', BitVec.getLsbD_ushiftRight, Int64.toBitVec_toUInt64, h2 r hr]
    by_cases c : j < 8
    · have e : (v.toBitVec.sshiftRight' (BitVec.ofNat 64 (8 * r))).getLsbD j = v.toBitVec.getLsbD (8 * r + j) := by
        show (v.toBitVec.sshiftRight (BitVec.ofNat 64 (8 * r)).toNat).getLsbD j = _
        rw [BitVec.getLsbD_sshiftRight, BitVec.toNat_ofNat, Nat.mod_eq_of_lt (by omega), if_pos (by omega)]
        simp
        omega
      rw [e]
      simp [hj, c, show j < 64 by omega]
    · simp [c, show j < 64 by omega]
  · rw [hb_big (by omega), hb_big (by omega)]
theorem nib_eq {v : Int64} {r : Nat} (hr : r < 8) : (((lshr v (nI (8 * r))) &&& 255).toInt32) = (lushr v (nI (8 * r))).toInt32 &&& 255 := hb_ext fun j _ => nib hr
theorem byte255 (x : Int32) : vp_nar .byte x.toInt8.toInt32 &&& 255 = x &&& 255 := by
  rw [vp_nar_byte]
  refine hb_ext fun j hj => ?_
  rw [hb_and, hb_and, hb_255 j hj]
  by_cases c : j < 8
  · have e : hb x.toInt8.toInt32.toInt8.toInt32 j = hb x j := by
      unfold hb
      rw [Int8.toBitVec_toInt32, BitVec.getLsbD_signExtend, Int32.toBitVec_toInt8, BitVec.getLsbD_signExtend, Int8.toBitVec_toInt32, BitVec.getLsbD_signExtend, Int32.toBitVec_toInt8, BitVec.getLsbD_signExtend]
      simp [c, hj]
    rw [e]
  · simp [c]
theorem write_eq (p2 : Int64) : ∀ (r : Nat) (tl : Nat) (bytes text : Nat → Int32), r ≤ 8 → tl + r ≤ 96 → TR tl bytes text →
    (f_X8_write_L36 p2 r tl bytes).1 = (f_X9_write_L39 p2 r tl text).1 ∧ TR (f_X8_write_L36 p2 r tl bytes).1 (f_X8_write_L36 p2 r tl bytes).2 (f_X9_write_L39 p2 r tl text).2 := by
  intro r
  induction r with
  | zero => intro tl bytes text _ _ T; exact ⟨rfl, T⟩
  | succ r ih =>
    intro tl bytes text h8 h96 T
    simp only [f_X8_write_L36, f_X9_write_L39]
    have ea : f_X6_append tl bytes ((lushr p2 (nI (8 * r))).toInt32 &&& 255) = (tl + 1, upd bytes tl (vp_nar .byte ((lushr p2 (nI (8 * r))).toInt32 &&& 255).toInt8.toInt32)) := by
      unfold f_X6_append
      rw [if_neg (by omega), if_neg (by omega)]
    rw [ea]
    dsimp only
    refine ih (tl + 1) _ _ (by omega) (by omega) ⟨by omega, fun k hk => ?_⟩
    rw [upd_at, upd_at]
    by_cases e : k = tl
    · rw [if_pos e, if_pos e, nib_eq (by omega), byte255]
      have h := and255 (lushr p2 (nI (8 * r))).toInt32
      refine ⟨_, h, (nI_toNat _).symm, ?_⟩
      rw [nI_toNat]
      refine hb_ext fun j hj => ?_
      rw [hb_and, hb_and, hb_255 j hj]
      cases decide (j < 8) <;> simp
    · rw [if_neg e, if_neg e]
      exact T.2 k (by omega)
section CALLS2
variable {kS : Int32} {tl : Nat} {bytes : Nat → Int32} {v : TVi} {now : TN} {st ct : Nat} {bs ss : Nat → TN} {sc : Nat} {kinds moons places values : Nat → Int32} {path home kin a was kept isKept text sight : Nat → Int32}
theorem q_track (R : RR kS tl bytes v now st ct bs ss sc kinds moons places values path home kin a was kept isKept text sight) (p1 p2 p3 : Int32) :
    (f_X8_track v sc kinds moons places values p1 p2 p3).1 = (f_X9_track (gVi_houses v) sc sight p1 p2 p3).1 ∧ (f_X8_track v sc kinds moons places values p1 p2 p3).2.1 = (f_X9_track (gVi_houses v) sc sight p1 p2 p3).2.2.1 ∧
    RR kS tl bytes v now st ct bs ss (f_X8_track v sc kinds moons places values p1 p2 p3).2.1 (f_X8_track v sc kinds moons places values p1 p2 p3).2.2.1 (f_X8_track v sc kinds moons places values p1 p2 p3).2.2.2.1 (f_X8_track v sc kinds moons places values p1 p2 p3).2.2.2.2.1 (f_X8_track v sc kinds moons places values p1 p2 p3).2.2.2.2.2 path home kin a was kept isKept text (f_X9_track (gVi_houses v) sc sight p1 p2 p3).2.2.2 := by
  obtain ⟨W, N, A, K, S, T⟩ := R
  unfold f_X8_track f_X9_track
  rw [noHouse_eq W.hH]
  by_cases c : f_X8_noHouse v p2 = true
  · rw [if_pos c, if_pos c]; exact ⟨rfl, rfl, W, N, A, K, S, T⟩
  · rw [if_neg c, if_neg c]
    dsimp only
    by_cases c1 : f_X8_noMoon p1 = true
    · have := fun z => (moon_ex p1).mp z c1
      rw [if_pos c1, if_neg this, if_neg this, if_neg this]; exact ⟨rfl, rfl, W, N, A, K, S, T⟩
    · have := (moon_ex p1).mpr c1
      rw [if_neg c1, if_pos this, if_pos this, if_pos this]
      have hin := inI p3 0 6
      rw [show (0 : Int32).toInt64 = 0 from rfl, show (6 : Int32).toInt64 = 6 from rfl] at hin
      by_cases c2 : p3 < 0
      · have h2 := fun z => (hin.mp z).1 c2
        rw [if_pos c2, if_neg h2, if_neg h2, if_neg h2]; exact ⟨rfl, rfl, W, N, A, K, S, T⟩
      · rw [if_neg c2]
        by_cases c3 : p3 ≤ 6
        · have h2 := hin.mpr ⟨c2, Int32.not_lt.mpr c3⟩
          rw [if_pos c3, if_pos h2, if_pos h2, if_pos h2]
          obtain ⟨m, hm, rfl⟩ := moon_j c1
          obtain ⟨h, hh, rfl⟩ := nh_ex W.hH c
          obtain ⟨x, hx, rfl⟩ := nI_of c2
          have hx6 : x ≤ 6 := (nI_le_ hx (by omega)).mp c3
          have hH := W.hH
          rw [tn_nI (by omega), tn_nI (by omega), tn_nI (by omega)]
          obtain ⟨k1, k2, k3⟩ := SR_add S (k := 0) (m := nI m) (p := nI h) (x := nI x) (Or.inl ⟨rfl, ⟨m, hm, rfl⟩, ⟨h, by omega, rfl⟩, ⟨x, hx6, rfl⟩⟩)
          exact ⟨k1, k2, W, N, A, K, k3, T⟩
        · have h2 := fun z => (hin.mp z).2 (Int32.not_le.mp c3)
          rw [if_neg c3, if_neg h2, if_neg h2, if_neg h2]; exact ⟨rfl, rfl, W, N, A, K, S, T⟩
theorem q_hungry (R : RR kS tl bytes v now st ct bs ss sc kinds moons places values path home kin a was kept isKept text sight) (p1 p2 : Int32) (p3 : Bool) :
    (f_X8_hungry v sc kinds moons places values p1 p2 p3).1 = (f_X9_hungry (gVi_people v) sc sight p1 p2 p3).1 ∧ (f_X8_hungry v sc kinds moons places values p1 p2 p3).2.1 = (f_X9_hungry (gVi_people v) sc sight p1 p2 p3).2.2.1 ∧
    RR kS tl bytes v now st ct bs ss (f_X8_hungry v sc kinds moons places values p1 p2 p3).2.1 (f_X8_hungry v sc kinds moons places values p1 p2 p3).2.2.1 (f_X8_hungry v sc kinds moons places values p1 p2 p3).2.2.2.1 (f_X8_hungry v sc kinds moons places values p1 p2 p3).2.2.2.2.1 (f_X8_hungry v sc kinds moons places values p1 p2 p3).2.2.2.2.2 path home kin a was kept isKept text (f_X9_hungry (gVi_people v) sc sight p1 p2 p3).2.2.2 := by
  obtain ⟨W, N, A, K, S, T⟩ := R
  unfold f_X8_hungry f_X9_hungry
  rw [noOne_eq W.hP]
  by_cases c : f_X8_noPerson v p2 = true
  · rw [if_pos c, if_pos c]; exact ⟨rfl, rfl, W, N, A, K, S, T⟩
  · rw [if_neg c, if_neg c]
    dsimp only
    by_cases c1 : f_X8_noMoon p1 = true
    · have := fun z => (moon_ex p1).mp z c1
      rw [if_pos c1, if_neg this, if_neg this, if_neg this]; exact ⟨rfl, rfl, W, N, A, K, S, T⟩
    · have := (moon_ex p1).mpr c1
      rw [if_neg c1, if_pos this, if_pos this, if_pos this]
      obtain ⟨m, hm, rfl⟩ := moon_j c1
      obtain ⟨h, hh, rfl⟩ := np_ex W.hP c
      have hP := W.hP
      rw [tn_nI (by omega), tn_nI (by omega), bIif]
      obtain ⟨k1, k2, k3⟩ := SR_add S (k := 1) (m := nI m) (p := nI h) (x := bI p3) (Or.inr (Or.inl ⟨rfl, ⟨m, hm, rfl⟩, ⟨h, by omega, rfl⟩, ⟨p3, rfl⟩⟩))
      exact ⟨k1, k2, W, N, A, K, k3, T⟩
theorem q_spoon (R : RR kS tl bytes v now st ct bs ss sc kinds moons places values path home kin a was kept isKept text sight) (p1 : Int32) (p2 : Bool) :
    (f_X8_spoon v sc kinds moons places values p1 p2).1 = (f_X9_spoon (gVi_people v) sc sight p1 p2).1 ∧ (f_X8_spoon v sc kinds moons places values p1 p2).2.1 = (f_X9_spoon (gVi_people v) sc sight p1 p2).2.2.1 ∧
    RR kS tl bytes v now st ct bs ss (f_X8_spoon v sc kinds moons places values p1 p2).2.1 (f_X8_spoon v sc kinds moons places values p1 p2).2.2.1 (f_X8_spoon v sc kinds moons places values p1 p2).2.2.2.1 (f_X8_spoon v sc kinds moons places values p1 p2).2.2.2.2.1 (f_X8_spoon v sc kinds moons places values p1 p2).2.2.2.2.2 path home kin a was kept isKept text (f_X9_spoon (gVi_people v) sc sight p1 p2).2.2.2 := by
  obtain ⟨W, N, A, K, S, T⟩ := R
  unfold f_X8_spoon f_X9_spoon
  rw [noOne_eq W.hP]
  dsimp only
  by_cases c : f_X8_noPerson v p1 = true
  · simp only [if_pos c]; exact ⟨trivial, trivial, W, N, A, K, S, T⟩
  · simp only [if_neg c]
    obtain ⟨h, hh, rfl⟩ := np_ex W.hP c
    have hP := W.hP
    rw [tn_nI (by omega), bIif]
    obtain ⟨k1, k2, k3⟩ := SR_add S (k := 2) (m := 0) (p := nI h) (x := bI p2) (Or.inr (Or.inr ⟨rfl, rfl, ⟨h, by omega, rfl⟩, ⟨p2, rfl⟩⟩))
    exact ⟨k1, k2, W, N, A, K, k3, T⟩
theorem q_first (R : RR kS tl bytes v now st ct bs ss sc kinds moons places values path home kin a was kept isKept text sight) (p1 : Int32) : f_X8_first v now p1 = (f_X9_first (gVi_people v) a p1).1 := by
  obtain ⟨W, ⟨N, I⟩, _⟩ := R
  unfold f_X8_first f_X9_first
  rw [noOne_eq W.hP]
  by_cases c : f_X8_noPerson v p1 = true
  · rw [if_pos c, if_pos c]
  · rw [if_neg c, if_neg c]
    obtain ⟨j, hj, rfl⟩ := np_ex W.hP c
    have hP := W.hP
    rw [tn_nI (by omega), first_eq N I hP hj]
theorem q_line (R : RR kS tl bytes v now st ct bs ss sc kinds moons places values path home kin a was kept isKept text sight) (p1 : Int32) : f_X8_line v now p1 = (f_X9_line (gVi_people v) a p1).1 := by
  obtain ⟨W, ⟨N, I⟩, _⟩ := R
  unfold f_X8_line f_X9_line
  rw [noOne_eq W.hP]
  by_cases c : f_X8_noPerson v p1 = true
  · rw [if_pos c, if_pos c]
  · rw [if_neg c, if_neg c]
    obtain ⟨j, hj, rfl⟩ := np_ex W.hP c
    have hP := W.hP
    rw [tn_nI (by omega), line_eq N I hP hj]
theorem q_brood (R : RR kS tl bytes v now st ct bs ss sc kinds moons places values path home kin a was kept isKept text sight) (p1 : Int32) : f_X8_brood v now p1 = (f_X9_brood (gVi_people v) a p1).1 := by
  obtain ⟨W, ⟨N, I⟩, _⟩ := R
  unfold f_X8_brood f_X9_brood
  rw [noOne_eq W.hP]
  by_cases c : f_X8_noPerson v p1 = true
  · rw [if_pos c, if_pos c]
  · rw [if_neg c, if_neg c]
    obtain ⟨j, hj, rfl⟩ := np_ex W.hP c
    have hP := W.hP
    dsimp only
    rw [accI, accJ, tn_nI (by omega)]
    exact accP_congr _ _ _ fun i _ hi => by rw [first_eq N I hP (by omega)]
theorem q_ends (R : RR kS tl bytes v now st ct bs ss sc kinds moons places values path home kin a was kept isKept text sight) : (∀ q, q < gVi_people v → f_X9_firstOf_L2_E a fuelC q = true) ∧ (∀ q, q < gVi_people v → f_X9_lineOf_L4_E a fuelC 0 q = true) ∧ (∀ q, q < 6 → a (13 + 5 * q + 4) = -9 ∨ ∃ j, j < 6 ∧ a (13 + 5 * q + 4) = nI j) := by
  obtain ⟨W, ⟨N, I⟩, _⟩ := R
  have hP := W.hP
  refine ⟨fun q hq => first_end N I hP hq, fun q hq => line_end N I hP hq, fun q hq => ?_⟩
  have h := N.biter hq
  unfold f_X9_of at h
  rw [h]
  by_cases c : q < gVi_people v
  · rw [if_pos c, biterOf_cn]
    by_cases c1 : cn (gN_biters now) q = 0
    · exact Or.inl (if_pos c1)
    · rw [if_neg c1]
      obtain ⟨d, h1, _⟩ := depth5 I
      rcases h1 q c with ⟨z, _⟩ | ⟨b, hb1, hb2, _⟩
      · exact absurd z c1
      · exact Or.inr ⟨b, by omega, by rw [hb2]; rfl⟩
  · rw [if_neg c]; exact Or.inr ⟨0, by omega, rfl⟩
theorem q_count (R : RR kS tl bytes v now st ct bs ss sc kinds moons places values path home kin a was kept isKept text sight) (p1 : Int32) : f_X8_count tl v now ct sc p1 = (f_X9_count (gVi_houses v) (gVi_people v) (gVi_pathCount v) ct tl sc a p1).1 := by
  obtain ⟨W, ⟨N, I⟩, _⟩ := R
  have hH := W.hH
  have hsh : f_X9_count_L9 a (gVi_houses v) 0 0 = f_X2_allSheep now := by
    unfold f_X2_allSheep
    have e1 : ∀ (r k : Nat) (s : Int32), k + r ≤ 4 → f_X9_count_L9 a r k s = f_X2_allSheep_L4 now r k s := by
      intro r
      induction r with
      | zero => intro k s _; rfl
      | succ r ih => intro k s h; simp only [f_X9_count_L9, f_X2_allSheep_L4]; rw [ih _ _ (by omega), N.sheep (by omega)]
    have e2 : ∀ (r k : Nat) (s : Int32), gVi_houses v ≤ k → k + r ≤ 4 → f_X2_allSheep_L4 now r k s = s := by
      intro r
      induction r with
      | zero => intro k s _ _; rfl
      | succ r ih => intro k s h1 h2; simp only [f_X2_allSheep_L4]; rw [ih _ _ (by omega) (by omega), cn0.mpr (I.2.2.1 k h1 (by omega)), Int32.add_zero]
    have e3 : ∀ (r t k : Nat) (s : Int32), f_X2_allSheep_L4 now (r + t) k s = f_X2_allSheep_L4 now t (k + r) (f_X2_allSheep_L4 now r k s) := by
      intro r
      induction r with
      | zero => intro t k s; rw [Nat.zero_add]; rfl
      | succ r ih => intro t k s; rw [show r + 1 + t = r + t + 1 by omega]; simp only [f_X2_allSheep_L4]; rw [ih, show k + 1 + r = k + (r + 1) by omega]
    rw [e1 _ _ _ (by omega)]
    have := e3 (gVi_houses v) (4 - gVi_houses v) 0 0
    rw [show gVi_houses v + (4 - gVi_houses v) = 4 by omega] at this
    rw [this, e2 (4 - gVi_houses v) (0 + gVi_houses v) _ (by omega) (by omega)]
  unfold f_X8_count f_X9_count
  rw [wolves_eq N W.hP, there_eq N W.hP, open_eq N W.hH, hsh, N.num]
  (repeat' split) <;> rfl
theorem q_safe (R : RR kS tl bytes v now st ct bs ss sc kinds moons places values path home kin a was kept isKept text sight) : f_X8_safe now v = (f_X9_safe (gVi_houses v) (gVi_people v) a home path).1 := by
  obtain ⟨W, ⟨N, I⟩, _⟩ := R
  have hP := W.hP
  have e : ∀ (r k : Nat) (s t : Int32), k + r = gVi_people v → f_X8_safe_L19 now v r k s t = f_X9_safe_L11 (gVi_houses v) a home path r k s t := by
    intro r
    induction r with
    | zero => intro k s t _; rfl
    | succ r ih =>
      intro k s t h
      simp only [f_X8_safe_L19, f_X9_safe_L11]
      rw [ih _ _ _ (by omega), N.wolf (by omega), N.isThere (by omega), reach_eq N W (by omega), has_hb (by omega), has_hb (by omega), hb_and]
      have ht := there_hb now v hP k
      have ht2 : hb (f_X2_there now v) k = !hb (gN_gone now) k := by
        cases c : hb (gN_gone now) k with
        | true => exact Bool.eq_false_iff.mpr fun z => by rw [(ht.mp z).2] at c; cases c
        | false => exact ht.mpr ⟨by omega, c⟩
      rw [ht2, W.hhome (by omega)]
      cases c1 : hb (gN_wolves now) k <;> cases c2 : hb (gN_gone now) k <;> simp [bI, f_X8_bit]
  show (f_X8_safe_L19 now v (gVi_people v) 0 0 0).1 &&& (f_X8_safe_L19 now v (gVi_people v) 0 0 0).2 = _
  rw [e _ _ _ _ (by omega)]
  rfl
theorem q_write (R : RR kS tl bytes v now st ct bs ss sc kinds moons places values path home kin a was kept isKept text sight) (p1 : Int32) (p2 : Int64) :
    (f_X8_write tl bytes p1 p2).1 = (f_X9_write tl text p1 p2).1 ∧ (f_X8_write tl bytes p1 p2).2.1 = (f_X9_write tl text p1 p2).2.2.1 ∧ RR kS (f_X8_write tl bytes p1 p2).2.1 (f_X8_write tl bytes p1 p2).2.2 v now st ct bs ss sc kinds moons places values path home kin a was kept isKept (f_X9_write tl text p1 p2).2.2.2 sight := by
  obtain ⟨W, N, A, K, S, T⟩ := R
  unfold f_X8_write f_X9_write
  have hin := inI p1 1 8
  rw [show (1 : Int32).toInt64 = 1 from rfl, show (8 : Int32).toInt64 = 8 from rfl] at hin
  by_cases c : p1 < 1
  · rw [if_pos c, if_neg (fun z => (hin.mp z).1 c)]; exact ⟨rfl, rfl, W, N, A, K, S, T⟩
  · rw [if_neg c]
    by_cases c2 : p1 ≤ 8
    · have h2 := hin.mpr ⟨c, Int32.not_lt.mpr c2⟩
      rw [if_pos c2, if_pos h2]
      by_cases c3 : tl + tn p1 ≤ 96
      · rw [if_pos c3, if_pos c3]
        have hp := (c18_e (n := 8) c (Int32.not_lt.mpr c2) (by decide)).2
        obtain ⟨k1, k2⟩ := write_eq p2 (tn p1 - 1 + 1) tl bytes text (by omega) (by omega) T
        dsimp only
        exact ⟨congrArg nI k1, k1, W, N, A, K, S, k2⟩
      · rw [if_neg c3, if_neg c3]; exact ⟨rfl, rfl, W, N, A, K, S, T⟩
    · rw [if_neg c2, if_neg (fun z => (hin.mp z).2 (Int32.not_le.mp c2))]; exact ⟨rfl, rfl, W, N, A, K, S, T⟩
theorem q_wipe (R : RR kS tl bytes v now st ct bs ss sc kinds moons places values path home kin a was kept isKept text sight) : RR kS 0 bytes v now st ct bs ss sc kinds moons places values path home kin a was kept isKept text sight := by
  obtain ⟨W, N, A, K, S, T⟩ := R
  exact ⟨W, N, A, K, S, by omega, fun k hk => by omega⟩
theorem q_unsee (R : RR kS tl bytes v now st ct bs ss sc kinds moons places values path home kin a was kept isKept text sight) : RR kS tl bytes v now st ct bs ss 0 kinds moons places values path home kin a was kept isKept text sight := by
  obtain ⟨W, N, A, K, S, T⟩ := R
  exact ⟨W, N, A, K, ⟨by omega, fun k hk => by omega⟩, T⟩
theorem slot_in (p : Int32) : f_X9_in p.toInt64 0 1 = true ↔ (p = nI (tn p) ∧ tn p < 2) := by
  have hin := inI p 0 1
  rw [show (0 : Int32).toInt64 = 0 from rfl, show (1 : Int32).toInt64 = 1 from rfl] at hin
  rw [hin]
  constructor
  · rintro ⟨h1, h2⟩
    refine ⟨tn_e h1, ?_⟩
    obtain ⟨j, hj, rfl⟩ := nI_of h1
    rw [tn_nI hj]
    exact Nat.lt_of_not_le fun z => h2 ((nI_lt_ (a := 1) (b := j) (by omega) hj).mpr (by omega))
  · rintro ⟨h1, h2⟩
    rw [h1]
    exact ⟨nI_neg (by omega), fun z => by have := (nI_lt_ (a := 1) (b := tn p) (by omega) (by omega)).mp z; omega⟩
theorem slot_out {p : Int32} (h : ¬ f_X9_in p.toInt64 0 1 = true) : p < 0 ∨ nI 2 ≤ p := by
  by_cases c : p < 0
  · exact Or.inl c
  · obtain ⟨j, hj, rfl⟩ := nI_of c
    refine Or.inr ((nI_le_ (by omega) hj).mpr (Nat.le_of_not_lt fun z => h ((slot_in (nI j)).mpr ?_)))
    rw [tn_nI hj]
    exact ⟨rfl, z⟩
theorem q_keep (R : RR kS tl bytes v now st ct bs ss sc kinds moons places values path home kin a was kept isKept text sight) (p1 : Int32) (h1 : p1 = nI (tn p1)) (h2 : tn p1 < 2) (el : TN) :
    (f_X8_keep_in kS el now p1).1 = (f_X9_keep kept a isKept p1).1 ∧ RR (f_X8_keep_in kS el now p1).2.1 tl bytes v now st ct bs (va_up ss (tn p1) (f_X8_keep_in kS el now p1).2.2) sc kinds moons places values path home kin a was (f_X9_keep kept a isKept p1).2.2.1 (f_X9_keep kept a isKept p1).2.2.2 text sight := by
  obtain ⟨W, N, A, K, S, T⟩ := R
  unfold f_X9_keep
  rw [if_pos ((slot_in p1).mpr ⟨h1, h2⟩)]
  refine ⟨N.1.num.symm, W, N, A, ?_, S, T⟩
  intro s hs
  have e1 : (f_X8_keep_in kS el now p1).2.1 = kS ||| f_X8_bit (nI (tn p1)) := rfl
  have e2 : (f_X8_keep_in kS el now p1).2.2 = now := rfl
  rw [e1, e2, hb_set (by omega)]
  dsimp only
  by_cases e : s = tn p1
  · subst e
    have eu : va_up ss (tn p1) now (tn p1) = now := if_pos rfl
    rw [upd_at, if_pos rfl, eu, decide_eq_true rfl, Bool.or_true]
    refine ⟨rfl, fun _ => N.congr fun i hi => ?_⟩
    rw [keep_at, if_pos (by omega)]
    exact congrArg a (by omega)
  · have eu : va_up ss (tn p1) now s = ss s := if_neg e
    rw [upd_at, if_neg e, eu, decide_eq_false e, Bool.or_false]
    refine ⟨(K s hs).1, fun h => ((K s hs).2 h).congr fun i hi => ?_⟩
    rw [keep_at, if_neg (by omega)]
theorem q_again (R : RR kS tl bytes v now st ct bs ss sc kinds moons places values path home kin a was kept isKept text sight) (p1 : Int32) (h1 : p1 = nI (tn p1)) (h2 : tn p1 < 2) (el : TN) (hel : ss (tn p1) = el) :
    (f_X8_again_in kS el now ct p1).1 = (f_X9_again ct isKept a kept p1).1 ∧ (f_X8_again_in kS el now ct p1).2.2 = (f_X9_again ct isKept a kept p1).2.2.1 ∧ RR kS tl bytes v (f_X8_again_in kS el now ct p1).2.1 st (f_X8_again_in kS el now ct p1).2.2 bs ss sc kinds moons places values path home kin (f_X9_again ct isKept a kept p1).2.2.2 was kept isKept text sight := by
  obtain ⟨W, N, A, K, S, T⟩ := R
  unfold f_X8_again_in f_X9_again
  rw [if_pos ((slot_in p1).mpr ⟨h1, h2⟩), has_hb (by omega), (K (tn p1) h2).1]
  by_cases c : hb kS (tn p1) = true
  · rw [if_pos c, if_neg (by rw [c]; decide)]
    have h := (K (tn p1) h2).2 c
    rw [hel] at h
    have hN : NN (gVi_houses v) (gVi_people v) el (f_X9_again_L31 kept p1 43 0 a) := h.congr fun i hi => by rw [again_at, if_pos (by omega)]
    exact ⟨hN.1.num.symm, rfl, W, hN, ⟨A.1, by show 0 ≤ 16; omega, fun k hk => by have hk : k < 0 := hk; omega⟩, K, S, T⟩
  · rw [if_neg c, if_pos (by rw [Bool.eq_false_iff.mpr c]; decide)]
    exact ⟨rfl, rfl, W, N, A, K, S, T⟩
end CALLS2
