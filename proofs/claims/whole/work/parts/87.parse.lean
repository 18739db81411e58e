/-! the reader of villages -/
theorem cntR_fa (c : Nat → Bool) : ∀ n, 1 ≤ fa_cnt c n ↔ ∃ i, i < n ∧ c i = true := by
  intro n
  induction n with
  | zero => exact ⟨fun h => by simp [fa_cnt] at h, fun ⟨i, h, _⟩ => by omega⟩
  | succ n ih =>
    cases e : c n with
    | true => rw [fa_cnt_yes e]; exact ⟨fun _ => ⟨n, by omega, e⟩, fun _ => by omega⟩
    | false =>
      rw [fa_cnt_no e, ih]
      constructor
      · rintro ⟨i, h1, h2⟩; exact ⟨i, by omega, h2⟩
      · rintro ⟨i, h1, h2⟩
        refine ⟨i, ?_, h2⟩
        rcases Nat.lt_or_eq_of_le (Nat.le_of_lt_succ h1) with z | z
        · exact z
        · rw [z, e] at h2; cases h2
def bgN (v : TVi) : TN := f_X2_begin zN v
theorem bg_wolves (v : TVi) : gN_wolves (bgN v) = gVi_wolves v := rfl
theorem bg_bitten (v : TVi) : gN_bitten (bgN v) = 0 := rfl
theorem bg_gone (v : TVi) : gN_gone (bgN v) = 0 := rfl
theorem bg_out (v : TVi) : gN_out (bgN v) = 0 := rfl
theorem bg_bolted (v : TVi) : gN_bolted (bgN v) = gVi_bolted v := rfl
theorem bg_barred (v : TVi) : gN_barred (bgN v) = gVi_barred v := rfl
theorem bg_sheep (v : TVi) : gN_sheep (bgN v) = gVi_sheep v := rfl
theorem bg_tracks (v : TVi) : gN_tracks (bgN v) = 0 := rfl
theorem bg_biters (v : TVi) : gN_biters (bgN v) = 0 := rfl
theorem bg_number (v : TVi) : gN_number (bgN v) = 0 := rfl
theorem bg_biterOf (v : TVi) {q : Nat} (hq : q < 8) : f_X2_biterOf (bgN v) (nI q) = -9 := by rw [biterOf_cn, bg_biters, cn_zero q hq, if_pos rfl]
/-- what the reference has read, by the village that the class has read -/
def PR (v : TVi) (read readPath readHome readKin : Nat → Int32) : Prop :=
  VR v readPath readHome readKin ∧
  (read 0 = 0 ∧ (∀ h, h < 4 → read (1 + h) = f_X8_cell (gVi_sheep v) (nI h)) ∧ (∀ h, h < 4 → read (5 + h) = f_X2_boltOf (bgN v) (nI h)) ∧ (∀ h, h < 4 → read (9 + h) = 0) ∧ (∀ p, p < 6 → read (13 + 5 * p + 0) = bI (hb (gVi_wolves v) p)) ∧ (∀ p, p < 6 → read (13 + 5 * p + 1) = 0) ∧ (∀ p, p < 6 → read (13 + 5 * p + 2) = 0) ∧ (∀ p, p < 6 → read (13 + 5 * p + 3) = 0) ∧ (∀ p, p < 6 → read (13 + 5 * p + 4) = if p < gVi_people v then -9 else 0)) ∧
  (∀ p, gVi_people v ≤ p → hb (gVi_wolves v) p = false) ∧ (∀ h, gVi_houses v ≤ h → h < 4 → cn (gVi_sheep v) h = 0) ∧ (∀ h, gVi_houses v ≤ h → hb (gVi_bolted v) h = false ∧ hb (gVi_barred v) h = false) ∧ (∀ p, p < 6 → ∀ j, hb (f_X8_cell (gVi_kin v) (nI p)) j = true → j < gVi_people v) ∧
  (∀ a, a < 4 → ∀ b, b < 4 → hb (f_X8_cell (gVi_paths v) (nI a)) b = hb (f_X8_cell (gVi_paths v) (nI b)) a)
theorem PR.NN {v : TVi} {read readPath readHome readKin : Nat → Int32} (R : PR v read readPath readHome readKin) : NN (gVi_houses v) (gVi_people v) (bgN v) read := by
  obtain ⟨W, ⟨r0, r1, r2, r3, r4, r5, r6, r7, r8⟩, i1, i2, i3, i4, i5⟩ := R
  refine ⟨⟨r0, r1, r2, fun h hh => ?_, r4, fun p hp => ?_, fun p hp => ?_, fun p hp => ?_, fun p hp => ?_⟩, fun p hp => ?_, fun p hp => ?_, i2, fun h hh => ?_, fun _ => 0, fun q hq => ?_⟩
  · rw [r3 h hh, bg_tracks]; exact (cn0.mpr (cn_zero h (by omega))).symm
  · rw [r5 p hp, bg_bitten, hb_zero]; rfl
  · rw [r6 p hp, bg_gone, hb_zero]; rfl
  · rw [r7 p hp, bg_out, hb_zero]; rfl
  · rw [r8 p hp, bg_biterOf v (by omega)]
  · rw [bg_wolves, bg_bitten, bg_gone, bg_out, hb_zero]; exact ⟨i1 p hp, rfl, rfl, rfl⟩
  · rw [bg_bitten, hb_zero] at hp; cases hp
  · rw [bg_tracks, cn_zero h (by omega)]; exact Nat.zero_le _
  · have hP := W.hP
    refine ⟨Or.inl ⟨by rw [bg_biters]; exact cn_zero q (by omega), rfl⟩, fun h => ?_⟩
    refine (cntR_fa _ 6).mpr ⟨q, by omega, h⟩
/-! figures -/
section FIG
variable {tl : Nat} {bytes text : Nat → Int32}
theorem byte_in (T : TR tl bytes text) {at_ : Nat} (h : at_ < tl) : f_X6_byteAt tl bytes (nI at_) = text at_ ∧ ∃ c, c < 256 ∧ text at_ = nI c := by
  obtain ⟨c, hc, h1, h2⟩ := T.2 at_ h
  have := T.1
  unfold f_X6_byteAt
  rw [if_neg (nI_neg (by omega)), if_neg (fun z => by have := (nI_le_ (by omega) (by omega)).mp z; omega), if_neg (show ¬ (96 : Int32) ≤ nI at_ from fun z => by have := (nI_le_ (a := 96) (b := at_) (by omega) (by omega)).mp z; omega), nI_cl (by omega), h2, h1]
  exact ⟨rfl, c, hc, rfl⟩
theorem byte_out (T : TR tl bytes text) {at_ : Nat} (h : tl ≤ at_) (h2 : at_ < 1000) : f_X6_byteAt tl bytes (nI at_) = -9 := by
  have := T.1
  unfold f_X6_byteAt
  rw [if_neg (nI_neg (by omega)), if_pos ((nI_le_ (by omega) (by omega)).mpr h)]
/-- a figure at a place, or none -/
theorem fig (T : TR tl bytes text) {at_ : Nat} (h9 : at_ < 1000) : (∃ c, c ≤ 9 ∧ at_ < tl ∧ text at_ = nI (48 + c) ∧ f_X9_peek tl at_ text = nI c ∧ ∀ m, f_X3_figure (nI at_) tl bytes m = if hb m c = true then (nI c, nI (at_ + 1)) else (-9, nI at_)) ∨ (f_X9_peek tl at_ text = -9 ∧ ∀ m, f_X3_figure (nI at_) tl bytes m = (-9, nI at_)) := by
  have hin : ∀ x : Int32, f_X9_in x.toInt64 48 57 = true ↔ (¬ x < 48 ∧ ¬ 57 < x) := fun x => inI x 48 57
  by_cases h : at_ < tl
  · obtain ⟨e1, c, hc, e2⟩ := byte_in T h
    unfold f_X9_peek f_X3_figure
    rw [e1, if_neg (show ¬ tl ≤ at_ by omega), e2]
    by_cases c1 : c < 48
    · have hlt : (nI c - 48 : Int32) < 0 := by
        have : ∀ c, c < 48 → (nI c - 48 : Int32) < 0 := by decide
        exact this c c1
      refine Or.inr ⟨?_, fun m => by rw [if_pos hlt]⟩
      rw [if_neg (fun z => ((hin _).mp z).1 ((nI_lt_ (a := c) (b := 48) (by omega) (by omega)).mpr c1))]
    · have es : (nI c - 48 : Int32) = nI (c - 48) := pk_sub (b := 48) (by omega)
      rw [es]
      by_cases c2 : 57 < c
      · refine Or.inr ⟨?_, fun m => by rw [if_neg (nI_neg (by omega)), if_pos (show (9 : Int32) < nI (c - 48) from (nI_lt_ (a := 9) (b := c - 48) (by omega) (by omega)).mpr (by omega))]⟩
        rw [if_neg (fun z => ((hin _).mp z).2 ((nI_lt_ (a := 57) (b := c) (by omega) (by omega)).mpr c2))]
      · refine Or.inl ⟨c - 48, by omega, h, by rw [show 48 + (c - 48) = c by omega], ?_, fun m => ?_⟩
        · rw [if_pos ((hin _).mpr ⟨fun z => c1 ((nI_lt_ (a := c) (b := 48) (by omega) (by omega)).mp z), fun z => c2 ((nI_lt_ (a := 57) (b := c) (by omega) (by omega)).mp z)⟩)]
        · rw [if_neg (nI_neg (by omega)), if_neg (fun z => by have := (nI_lt_ (a := 9) (b := c - 48) (by omega) (by omega)).mp z; omega), has_hb (by omega), nI_add1]
  · refine Or.inr ⟨?_, fun m => ?_⟩
    · unfold f_X9_peek; rw [if_pos (by omega)]
    · unfold f_X3_figure
      rw [byte_out T (by omega) h9, if_pos (by decide)]
theorem takes_c {at_ c : Nat} {m : Int32} (hc : c ≤ 9) (hp : f_X9_peek tl at_ text = nI c) (hm : ¬ m < nI c) : f_X9_takes tl at_ text m = (true, at_ + 1) := by
  have h := (inI (nI c) 0 m).mpr ⟨nI_neg (by omega), hm⟩
  unfold f_X9_takes
  rw [hp, show (0 : Int64) = (0 : Int32).toInt64 from rfl, h, if_pos rfl]
theorem takes_n {at_ : Nat} {m : Int32} (hp : f_X9_peek tl at_ text = -9 ∨ ∃ c, c ≤ 9 ∧ f_X9_peek tl at_ text = nI c ∧ m < nI c) : f_X9_takes tl at_ text m = (false, at_) := by
  have h : ¬ f_X9_in (f_X9_peek tl at_ text).toInt64 (0 : Int32).toInt64 m.toInt64 = true := fun z => by
    have z := (inI _ _ _).mp z
    rcases hp with e | ⟨c, _, e, hm⟩
    · rw [e] at z; exact z.1 (by decide)
    · rw [e] at z; exact z.2 hm
  unfold f_X9_takes
  rw [show (0 : Int64) = (0 : Int32).toInt64 from rfl, Bool.eq_false_iff.mpr h]
  rfl
end FIG
theorem lt_pred {H c : Nat} (hH : H ≤ 6) (hH1 : 1 ≤ H) (hc : c < 1000) : (nI H - 1 : Int32) < nI c ↔ ¬ c < H := by
  rw [show (nI H - 1 : Int32) = nI (H - 1) from pk_sub (b := 1) hH1, nI_lt_ (by omega) (by omega)]
  omega
section PART
variable {tl : Nat} {bytes text : Nat → Int32} {v : TVi} {read readPath readHome readKin : Nat → Int32}
theorem addHouse_PR (R : PR v read readPath readHome readKin) (h4 : gVi_houses v < 4) {c1 c2 : Nat} (hc1 : c1 ≤ 9) (hc2 : c2 ≤ 2) : PR (f_X7_addHouse v (nI c1) (nI c2)) (upd (upd read (1 + gVi_houses v) (nI c1)) (5 + gVi_houses v) (nI c2)) readPath readHome readKin := by
  obtain ⟨W, ⟨r0, r1, r2, r3, r4, r5, r6, r7, r8⟩, i1, i2, i3, i4, i5⟩ := R
  have eH : gVi_houses (f_X7_addHouse v (nI c1) (nI c2)) = gVi_houses v + 1 := rfl
  have eP : gVi_people (f_X7_addHouse v (nI c1) (nI c2)) = gVi_people v := rfl
  have eS : gVi_sheep (f_X7_addHouse v (nI c1) (nI c2)) = f_X8_withCell (gVi_sheep v) (nI (gVi_houses v)) (nI c1) := rfl
  have eB : gVi_bolted (f_X7_addHouse v (nI c1) (nI c2)) = if nI c2 = 1 then gVi_bolted v ||| f_X8_bit (nI (gVi_houses v)) else gVi_bolted v := rfl
  have eR : gVi_barred (f_X7_addHouse v (nI c1) (nI c2)) = if nI c2 = 2 then gVi_barred v ||| f_X8_bit (nI (gVi_houses v)) else gVi_barred v := rfl
  generalize hH : gVi_houses v = H at *
  have h3 : c2 = 0 ∨ c2 = 1 ∨ c2 = 2 := by omega
  have hbB : ∀ h, hb (gVi_bolted (f_X7_addHouse v (nI c1) (nI c2))) h = (hb (gVi_bolted v) h || (decide (h = H) && decide (c2 = 1))) := fun h => by
    rw [eB]
    rcases h3 with rfl | rfl | rfl
    · rw [if_neg (by decide)]; simp
    · rw [if_pos (by decide), hb_set (by omega)]; simp
    · rw [if_neg (by decide)]; simp
  have hbR : ∀ h, hb (gVi_barred (f_X7_addHouse v (nI c1) (nI c2))) h = (hb (gVi_barred v) h || (decide (h = H) && decide (c2 = 2))) := fun h => by
    rw [eR]
    rcases h3 with rfl | rfl | rfl
    · rw [if_neg (by decide)]; simp
    · rw [if_neg (by decide)]; simp
    · rw [if_pos (by decide), hb_set (by omega)]; simp
  obtain ⟨w1, w2, w3, w4, w5, w6, w7, w8, w9, w10⟩ := W
  refine ⟨⟨by rw [eH]; omega, w2, w3, w4, fun a ha b hb_ => by rw [eH]; have := w5 a ha b hb_; omega, w6, w7, fun p hp => by rw [eH]; have := w8 p hp; rw [hH] at this; exact Nat.lt_succ_of_lt this, w9, w10⟩, ⟨?_, fun h hh => ?_, fun h hh => ?_, fun h hh => ?_, fun p hp => ?_, fun p hp => ?_, fun p hp => ?_, fun p hp => ?_, fun p hp => ?_⟩, i1, fun h h1 h2 => ?_, fun h h1 => ?_, i4, i5⟩
  · rw [upd_at, upd_at, if_neg (by omega), if_neg (by omega)]; exact r0
  · rw [upd_at, upd_at, if_neg (by omega), eS, cell_wc (by omega) (by omega), and255_id (by omega)]
    by_cases e : h = H
    · rw [if_pos (by omega), if_pos e.symm]
    · rw [if_neg (by omega), if_neg (fun z => e z.symm)]; exact r1 h hh
  · rw [upd_at, upd_at]
    unfold f_X2_boltOf
    rw [bg_barred, bg_bolted, has_hb (by omega), has_hb (by omega), hbB, hbR]
    by_cases e : h = H
    · obtain ⟨z1, z2⟩ := i3 H (Nat.le_refl _)
      rw [e, if_pos rfl, z1, z2, decide_eq_true rfl]
      rcases h3 with rfl | rfl | rfl <;> rfl
    · rw [if_neg (by omega), if_neg (by omega), decide_eq_false e, r2 h hh]
      unfold f_X2_boltOf
      rw [bg_barred, bg_bolted, has_hb (by omega), has_hb (by omega)]
      simp only [Bool.false_and, Bool.or_false]
  · rw [upd_at, upd_at, if_neg (by omega), if_neg (by omega)]; exact r3 h hh
  · rw [upd_at, upd_at, if_neg (by omega), if_neg (by omega)]; exact r4 p hp
  · rw [upd_at, upd_at, if_neg (by omega), if_neg (by omega)]; exact r5 p hp
  · rw [upd_at, upd_at, if_neg (by omega), if_neg (by omega)]; exact r6 p hp
  · rw [upd_at, upd_at, if_neg (by omega), if_neg (by omega)]; exact r7 p hp
  · rw [upd_at, upd_at, if_neg (by omega), if_neg (by omega)]; exact r8 p hp
  · rw [eH] at h1
    rw [eS, cn_wc (by omega) (by omega) (by omega), if_neg (by omega)]
    exact i2 h (by omega) h2
  · rw [eH] at h1
    rw [hbB, hbR, decide_eq_false (show ¬ h = H by omega), (i3 h (by omega)).1, (i3 h (by omega)).2]
    exact ⟨rfl, rfl⟩
theorem addPerson_PR (R : PR v read readPath readHome readKin) (h6 : gVi_people v < 6) {c1 c2 : Nat} (hc1 : c1 < gVi_houses v) (hc2 : c2 ≤ 1) : PR (f_X7_addPerson v (nI c1) (if nI c2 = 1 then true else false)) (upd (upd read (13 + 5 * gVi_people v) (nI c2)) (13 + 5 * gVi_people v + 4) (-9)) readPath (upd readHome (gVi_people v) (nI c1)) readKin := by
  obtain ⟨W, ⟨r0, r1, r2, r3, r4, r5, r6, r7, r8⟩, i1, i2, i3, i4, i5⟩ := R
  obtain ⟨w1, w2, w3, w4, w5, w6, w7, w8, w9, w10⟩ := W
  have eH : ∀ b, gVi_houses (f_X7_addPerson v (nI c1) b) = gVi_houses v := fun _ => rfl
  have eP : ∀ b, gVi_people (f_X7_addPerson v (nI c1) b) = gVi_people v + 1 := fun _ => rfl
  have eO : ∀ b, gVi_homes (f_X7_addPerson v (nI c1) b) = f_X8_withCell (gVi_homes v) (nI (gVi_people v)) (nI c1) := fun _ => rfl
  have eW : ∀ b, gVi_wolves (f_X7_addPerson v (nI c1) b) = if b = true then gVi_wolves v ||| f_X8_bit (nI (gVi_people v)) else gVi_wolves v := fun _ => rfl
  have eb : (if nI c2 = 1 then true else false) = decide (c2 = 1) := by
    have h3 : c2 = 0 ∨ c2 = 1 := by omega
    rcases h3 with rfl | rfl <;> decide
  rw [eb]
  have hbW : ∀ p, hb (gVi_wolves (f_X7_addPerson v (nI c1) (decide (c2 = 1)))) p = (hb (gVi_wolves v) p || (decide (p = gVi_people v) && decide (c2 = 1))) := fun p => by
    rw [eW]
    by_cases c : c2 = 1
    · rw [if_pos (decide_eq_true c), hb_set (by omega), decide_eq_true c]; simp
    · rw [if_neg (by simp [c]), decide_eq_false c]; simp
  have hcn : ∀ p, p < 6 → cn (gVi_homes (f_X7_addPerson v (nI c1) (decide (c2 = 1)))) p = if gVi_people v = p then c1 else cn (gVi_homes v) p := fun p hp => by
    rw [eO, cn_wc (by omega) (by omega) (by omega)]
  refine ⟨⟨w1, by rw [eP]; omega, w3, w4, w5, fun p hp => ?_, fun p hp => ?_, fun p hp => ?_, w9, w10⟩, ⟨?_, fun h hh => ?_, fun h hh => ?_, fun h hh => ?_, fun p hp => ?_, fun p hp => ?_, fun p hp => ?_, fun p hp => ?_, fun p hp => ?_⟩, fun p hp => ?_, i2, i3, fun p hp j hj => by rw [eP]; exact Nat.lt_succ_of_lt (i4 p hp j hj), i5⟩
  · rw [upd_at, cell_cn, hcn p hp]
    by_cases e : p = gVi_people v
    · rw [if_pos e, if_pos e.symm]
    · rw [if_neg e, if_neg (fun z => e z.symm), w6 p hp, cell_cn]
  · rw [hcn p hp]; split
    · omega
    · exact w7 p hp
  · rw [eP] at hp
    rw [hcn p (by omega), eH]
    by_cases e : gVi_people v = p
    · rw [if_pos e]; exact hc1
    · rw [if_neg e]; exact w8 p (by omega)
  · rw [upd_at, upd_at, if_neg (by omega), if_neg (by omega)]; exact r0
  · rw [upd_at, upd_at, if_neg (by omega), if_neg (by omega)]; exact r1 h hh
  · rw [upd_at, upd_at, if_neg (by omega), if_neg (by omega)]; exact r2 h hh
  · rw [upd_at, upd_at, if_neg (by omega), if_neg (by omega)]; exact r3 h hh
  · rw [upd_at, upd_at, if_neg (by omega), hbW]
    by_cases e : p = gVi_people v
    · rw [if_pos (by omega), i1 p (by omega), decide_eq_true e]
      have h3 : c2 = 0 ∨ c2 = 1 := by omega
      rcases h3 with rfl | rfl <;> rfl
    · rw [if_neg (by omega), decide_eq_false e, Bool.false_and, Bool.or_false]; exact r4 p hp
  · rw [upd_at, upd_at, if_neg (by omega), if_neg (by omega)]; exact r5 p hp
  · rw [upd_at, upd_at, if_neg (by omega), if_neg (by omega)]; exact r6 p hp
  · rw [upd_at, upd_at, if_neg (by omega), if_neg (by omega)]; exact r7 p hp
  · rw [upd_at, upd_at, eP]
    by_cases e : p = gVi_people v
    · rw [if_pos (by omega), if_pos (by omega)]
    · rw [if_neg (by omega), if_neg (by omega), r8 p hp]
      by_cases z : p < gVi_people v
      · rw [if_pos z, if_pos (by omega)]
      · rw [if_neg z, if_neg (by omega)]
  · rw [eP] at hp
    rw [hbW, i1 p (by omega), decide_eq_false (show ¬ p = gVi_people v by omega)]; rfl
theorem linked_hb (r : Int64) {a b p : Nat} (ha : a < 6) (hb_ : b < 6) (hp : p < 6) (hab : a ≠ b) (i : Nat) : hb (f_X8_cell (f_X7_linked r (nI a) (nI b)) (nI p)) i = (hb (f_X8_cell r (nI p)) i || (decide (p = a) && decide (i = b)) || (decide (p = b) && decide (i = a))) := by
  unfold f_X7_linked
  have h255 : ∀ (y : Int32) (c : Nat), c < 6 → ∀ q : Nat, q < 8 → (f_X8_cell r (nI q) ||| f_X8_bit (nI c)) &&& 255 = f_X8_cell r (nI q) ||| f_X8_bit (nI c) := fun _ c hc q hq => by
    refine hb_ext fun i hi => ?_
    rw [hb_and, hb_255 i hi, hb_set (by omega), cell_hb hq]
    by_cases c8 : i < 8
    · simp [c8]
    · simp [c8]; omega
  rw [cell_wc (by omega) (by omega), cell_wc (by omega) (by omega), cell_wc (by omega) (by omega), if_neg hab]
  rw [h255 0 a ha b (by omega), h255 0 b hb_ a (by omega)]
  by_cases e1 : b = p
  · subst e1
    rw [if_pos rfl, hb_set (by omega)]
    simp [show ¬ b = a from fun z => hab z.symm]
  · rw [if_neg e1]
    by_cases e2 : a = p
    · subst e2
      rw [if_pos rfl, hb_set (by omega)]
      simp [show ¬ a = b from hab]
    · rw [if_neg e2]
      simp [show ¬ p = a from fun z => e2 z.symm, show ¬ p = b from fun z => e1 z.symm]
theorem addKin_PR (R : PR v read readPath readHome readKin) {a b : Nat} (ha : a < gVi_people v) (hb_ : b < gVi_people v) (hab : a ≠ b) : PR (f_X7_addKin v (nI a) (nI b)) read readPath readHome (upd (upd readKin a (readKin a ||| f_X8_bit (nI b))) b ((upd readKin a (readKin a ||| f_X8_bit (nI b))) b ||| f_X8_bit (nI a))) := by
  obtain ⟨W, r, i1, i2, i3, i4, i5⟩ := R
  obtain ⟨w1, w2, w3, w4, w5, w6, w7, w8, w9, w10⟩ := W
  have eK : gVi_kin (f_X7_addKin v (nI a) (nI b)) = f_X7_linked (gVi_kin v) (nI a) (nI b) := rfl
  refine ⟨⟨w1, w2, w3, w4, w5, w6, w7, w8, fun p hp => ?_, w10⟩, r, i1, i2, i3, fun p hp j hj => ?_, i5⟩
  · rw [eK]
    refine hb_ext fun i hi => ?_
    have k1 : (upd readKin a (readKin a ||| f_X8_bit (nI b))) b = readKin b := by rw [upd_at, if_neg (fun z => hab z.symm)]
    rw [linked_hb _ (by omega) (by omega) hp hab, k1, upd_at, upd_at]
    by_cases e1 : p = b
    · rw [if_pos e1, hb_set (by omega), e1, w9 b (by omega)]
      simp [show ¬ b = a from fun z => hab z.symm]
    · rw [if_neg e1]
      by_cases e2 : p = a
      · rw [if_pos e2, hb_set (by omega), e2, w9 a (by omega)]
        simp [hab]
      · rw [if_neg e2, w9 p hp]
        simp [e1, e2]
  · rw [eK, linked_hb _ (by omega) (by omega) hp hab] at hj
    simp only [Bool.or_eq_true, Bool.and_eq_true, decide_eq_true_eq] at hj
    show j < gVi_people v
    rcases hj with (hj | hj) | hj
    · exact i4 p hp j hj
    · omega
    · omega
theorem addPath_PR (R : PR v read readPath readHome readKin) {a b c : Nat} (ha : a < gVi_houses v) (hb_ : b < gVi_houses v) (hab : a ≠ b) (h0 : hb (f_X8_cell (gVi_paths v) (nI a)) b = false) (h0' : hb (f_X8_cell (gVi_paths v) (nI b)) a = false) (hc : c ≤ 1) :
    PR (f_X7_addPath v (nI a) (nI b) (if nI c = 1 then true else false)) read (upd (upd readPath (4 * a + b) (nI (1 + c))) (4 * b + a) (nI (1 + c))) readHome readKin := by
  obtain ⟨W, r, i1, i2, i3, i4, i5⟩ := R
  obtain ⟨w1, w2, w3, w4, w5, w6, w7, w8, w9, w10⟩ := W
  have eP : ∀ x, gVi_paths (f_X7_addPath v (nI a) (nI b) x) = f_X7_linked (gVi_paths v) (nI a) (nI b) := fun _ => rfl
  have eW : ∀ x, gVi_wells (f_X7_addPath v (nI a) (nI b) x) = if x = true then f_X7_linked (gVi_wells v) (nI a) (nI b) else gVi_wells v := fun _ => rfl
  have eb : (if nI c = 1 then true else false) = decide (c = 1) := by
    have h3 : c = 0 ∨ c = 1 := by omega
    rcases h3 with rfl | rfl <;> decide
  rw [eb]
  have hp : ∀ p, p < 4 → ∀ i, hb (f_X8_cell (gVi_paths (f_X7_addPath v (nI a) (nI b) (decide (c = 1)))) (nI p)) i = (hb (f_X8_cell (gVi_paths v) (nI p)) i || (decide (p = a) && decide (i = b)) || (decide (p = b) && decide (i = a))) := fun p hp i => by
    rw [eP, linked_hb _ (by omega) (by omega) (by omega) hab]
  have hw : ∀ p, p < 4 → ∀ i, hb (f_X8_cell (gVi_wells (f_X7_addPath v (nI a) (nI b) (decide (c = 1)))) (nI p)) i = (hb (f_X8_cell (gVi_wells v) (nI p)) i || (decide (c = 1) && ((decide (p = a) && decide (i = b)) || (decide (p = b) && decide (i = a))))) := fun p hp i => by
    rw [eW]
    by_cases e : c = 1
    · rw [if_pos (decide_eq_true e), linked_hb _ (by omega) (by omega) (by omega) hab, decide_eq_true e, Bool.true_and, Bool.or_assoc]
    · rw [if_neg (by simp [e]), decide_eq_false e, Bool.false_and, Bool.or_false]
  have hwa : hb (f_X8_cell (gVi_wells v) (nI a)) b = false := Bool.eq_false_iff.mpr fun z => by have := w4 a (by omega) b z; rw [h0] at this; cases this
  have hwb : hb (f_X8_cell (gVi_wells v) (nI b)) a = false := Bool.eq_false_iff.mpr fun z => by have := w4 b (by omega) a z; rw [h0'] at this; cases this
  refine ⟨⟨w1, w2, fun p hp4 q hq => ?_, fun p hp4 q hq => ?_, fun p hp4 q hq => ?_, w6, w7, w8, w9, fun p hp4 => ?_⟩, r, i1, i2, i3, i4, fun p hp4 q hq => ?_⟩
  · rw [hw p hp4, hp p hp4, upd_at, upd_at]
    have h3 : c = 0 ∨ c = 1 := by omega
    by_cases e1 : p = b ∧ q = a
    · obtain ⟨rfl, rfl⟩ := e1
      rw [if_pos rfl, hwb, h0']
      rcases h3 with rfl | rfl <;> simp <;> rfl
    · rw [if_neg (by omega)]
      by_cases e2 : p = a ∧ q = b
      · obtain ⟨rfl, rfl⟩ := e2
        rw [if_pos rfl, hwa, h0]
        rcases h3 with rfl | rfl <;> simp <;> rfl
      · have d1 : (decide (p = a) && decide (q = b)) = false := by simp; omega
        have d2 : (decide (p = b) && decide (q = a)) = false := by simp; omega
        rw [if_neg (by omega), d1, d2, w3 p hp4 q hq]
        simp
  · rw [hw p hp4] at hq
    rw [hp p hp4]
    simp only [Bool.or_eq_true, Bool.and_eq_true] at hq ⊢
    rcases hq with z | z
    · exact Or.inl (Or.inl (w4 p hp4 q z))
    · rcases z.2 with y | y
      · exact Or.inl (Or.inr y)
      · exact Or.inr y
  · rw [hp p hp4] at hq
    simp only [Bool.or_eq_true, Bool.and_eq_true, decide_eq_true_eq] at hq
    show q < gVi_houses v
    rcases hq with (z | z) | z
    · exact w5 p hp4 q z
    · omega
    · omega
  · rw [hp p hp4, w10 p hp4]
    simp
    omega
  · rw [hp p hp4, hp q hq, i5 p hp4 q hq, Bool.and_comm (x := decide (q = a)), Bool.and_comm (x := decide (q = b)), Bool.or_assoc, Bool.or_assoc, Bool.or_comm (x := decide (p = b) && decide (q = a))]
end PART
