/-! the class's ways are the reference's -/
def wyL (s : Int32) (W : Int64) (G : Int64 → Int64) : Nat → Nat → Int64 → Int64
  | 0, _, l => l
  | r + 1, k, l => wyL s W G r (k + 1) (if f_X8_has s (nI k) = true then (if f_X8_cell W (nI k) ≤ 0 then l else l + G (f_X8_withCell W (nI k) (f_X8_cell W (nI k) - 1))) else l)
def wy (aw : Int32) (u s : Int64) (set : Int32) : Nat → Nat → Int64 → Int64
  | 0, _, W => if W = 0 then 1 else 0
  | r + 1, p, W => if f_X8_has set (nI p) = true then wyL (f_X8_cell s (nI p)) W (wy aw u s set r (p + 1)) 4 0 (if f_X8_cell u (nI p) = 0 then 0 else (f_X8_cell u (nI p)).toInt64 * wy aw u s set r (p + 1) W) else if f_X8_has aw (nI p) = true then 0 else wy aw u s set r (p + 1) W
theorem wy_5 {tp : Nat} (htp : tp ≤ 6) (aw : Int32) (u s : Int64) (set : Int32) (W : Int64) : f_X5_ways_5 tp aw u s set W = wy aw u s set (tp - 5) 5 W := by
  by_cases c : tp ≤ 5
  · unfold f_X5_ways_5
    rw [if_pos c, show tp - 5 = 0 by omega]; rfl
  · have hG : ∀ W, f_X5_ways_6 W = wy aw u s set (tp - 6) 6 W := fun W => (by rw [show tp - 6 = 0 by omega]; rfl)
    have hL : ∀ (r k : Nat) (l : Int64), f_X5_ways_5_L106 s W r k l = wyL (f_X8_cell s (nI 5)) W (wy aw u s set (tp - 6) 6) r k l := by
      intro r
      induction r with
      | zero => intro k l; rfl
      | succ r ih => intro k l; simp only [f_X5_ways_5_L106, wyL]; rw [ih, hG]; rfl
    rw [show tp - 5 = (tp - 6) + 1 by omega]
    simp only [wy]
    unfold f_X5_ways_5
    rw [if_neg c, hL, hG]
    rfl
theorem wy_4 {tp : Nat} (htp : tp ≤ 6) (aw : Int32) (u s : Int64) (set : Int32) (W : Int64) : f_X5_ways_4 tp aw u s set W = wy aw u s set (tp - 4) 4 W := by
  by_cases c : tp ≤ 4
  · unfold f_X5_ways_4
    rw [if_pos c, show tp - 4 = 0 by omega]; rfl
  · have hG : ∀ W, f_X5_ways_5 tp aw u s set W = wy aw u s set (tp - 5) 5 W := fun W => wy_5 htp aw u s set W
    have hL : ∀ (r k : Nat) (l : Int64), f_X5_ways_4_L106 tp aw u s set W r k l = wyL (f_X8_cell s (nI 4)) W (wy aw u s set (tp - 5) 5) r k l := by
      intro r
      induction r with
      | zero => intro k l; rfl
      | succ r ih => intro k l; simp only [f_X5_ways_4_L106, wyL]; rw [ih, hG]; rfl
    rw [show tp - 4 = (tp - 5) + 1 by omega]
    simp only [wy]
    unfold f_X5_ways_4
    rw [if_neg c, hL, hG]
    rfl
theorem wy_3 {tp : Nat} (htp : tp ≤ 6) (aw : Int32) (u s : Int64) (set : Int32) (W : Int64) : f_X5_ways_3 tp aw u s set W = wy aw u s set (tp - 3) 3 W := by
  by_cases c : tp ≤ 3
  · unfold f_X5_ways_3
    rw [if_pos c, show tp - 3 = 0 by omega]; rfl
  · have hG : ∀ W, f_X5_ways_4 tp aw u s set W = wy aw u s set (tp - 4) 4 W := fun W => wy_4 htp aw u s set W
    have hL : ∀ (r k : Nat) (l : Int64), f_X5_ways_3_L106 tp aw u s set W r k l = wyL (f_X8_cell s (nI 3)) W (wy aw u s set (tp - 4) 4) r k l := by
      intro r
      induction r with
      | zero => intro k l; rfl
      | succ r ih => intro k l; simp only [f_X5_ways_3_L106, wyL]; rw [ih, hG]; rfl
    rw [show tp - 3 = (tp - 4) + 1 by omega]
    simp only [wy]
    unfold f_X5_ways_3
    rw [if_neg c, hL, hG]
    rfl
theorem wy_2 {tp : Nat} (htp : tp ≤ 6) (aw : Int32) (u s : Int64) (set : Int32) (W : Int64) : f_X5_ways_2 tp aw u s set W = wy aw u s set (tp - 2) 2 W := by
  by_cases c : tp ≤ 2
  · unfold f_X5_ways_2
    rw [if_pos c, show tp - 2 = 0 by omega]; rfl
  · have hG : ∀ W, f_X5_ways_3 tp aw u s set W = wy aw u s set (tp - 3) 3 W := fun W => wy_3 htp aw u s set W
    have hL : ∀ (r k : Nat) (l : Int64), f_X5_ways_2_L106 tp aw u s set W r k l = wyL (f_X8_cell s (nI 2)) W (wy aw u s set (tp - 3) 3) r k l := by
      intro r
      induction r with
      | zero => intro k l; rfl
      | succ r ih => intro k l; simp only [f_X5_ways_2_L106, wyL]; rw [ih, hG]; rfl
    rw [show tp - 2 = (tp - 3) + 1 by omega]
    simp only [wy]
    unfold f_X5_ways_2
    rw [if_neg c, hL, hG]
    rfl
theorem wy_1 {tp : Nat} (htp : tp ≤ 6) (aw : Int32) (u s : Int64) (set : Int32) (W : Int64) : f_X5_ways_1 tp aw u s set W = wy aw u s set (tp - 1) 1 W := by
  by_cases c : tp ≤ 1
  · unfold f_X5_ways_1
    rw [if_pos c, show tp - 1 = 0 by omega]; rfl
  · have hG : ∀ W, f_X5_ways_2 tp aw u s set W = wy aw u s set (tp - 2) 2 W := fun W => wy_2 htp aw u s set W
    have hL : ∀ (r k : Nat) (l : Int64), f_X5_ways_1_L106 tp aw u s set W r k l = wyL (f_X8_cell s (nI 1)) W (wy aw u s set (tp - 2) 2) r k l := by
      intro r
      induction r with
      | zero => intro k l; rfl
      | succ r ih => intro k l; simp only [f_X5_ways_1_L106, wyL]; rw [ih, hG]; rfl
    rw [show tp - 1 = (tp - 2) + 1 by omega]
    simp only [wy]
    unfold f_X5_ways_1
    rw [if_neg c, hL, hG]
    rfl
theorem wy_0 {tp : Nat} (htp : tp ≤ 6) (aw : Int32) (u s : Int64) (set : Int32) (W : Int64) : f_X5_ways_0 tp aw u s set W = wy aw u s set (tp - 0) 0 W := by
  by_cases c : tp ≤ 0
  · unfold f_X5_ways_0
    rw [if_pos c, show tp - 0 = 0 by omega]; rfl
  · have hG : ∀ W, f_X5_ways_1 tp aw u s set W = wy aw u s set (tp - 1) 1 W := fun W => wy_1 htp aw u s set W
    have hL : ∀ (r k : Nat) (l : Int64), f_X5_ways_0_L106 tp aw u s set W r k l = wyL (f_X8_cell s (nI 0)) W (wy aw u s set (tp - 1) 1) r k l := by
      intro r
      induction r with
      | zero => intro k l; rfl
      | succ r ih => intro k l; simp only [f_X5_ways_0_L106, wyL]; rw [ih, hG]; rfl
    rw [show tp - 0 = (tp - 1) + 1 by omega]
    simp only [wy]
    unfold f_X5_ways_0
    rw [if_neg c, hL, hG]
    rfl
theorem nI64 : ∀ n, n < 256 → (nI n).toInt64 = lN n := by decide +kernel
theorem small16 {x : Int32} (h : ∀ i, 4 ≤ i → hb x i = false) : ∃ m, m < 16 ∧ x = nI m := by
  refine ⟨x.toBitVec.toNat, ?_, (nI_toNat x).symm⟩
  refine Nat.lt_of_lt_of_le (Nat.lt_pow_two_of_testBit x.toBitVec.toNat (n := 4) fun i hi => ?_) (by decide)
  exact h i hi
theorem bc16 : ∀ m, m < 16 → f_J6_bitCount_0f7a4 (nI m) = nI ((if hb (nI m) 0 = true then 1 else 0) + ((if hb (nI m) 1 = true then 1 else 0) + ((if hb (nI m) 2 = true then 1 else 0) + (if hb (nI m) 3 = true then 1 else 0)))) := by decide +kernel
theorem bc_hb {x : Int32} (h : ∀ i, 4 ≤ i → hb x i = false) : f_J6_bitCount_0f7a4 x = nI ((if hb x 0 = true then 1 else 0) + ((if hb x 1 = true then 1 else 0) + ((if hb x 2 = true then 1 else 0) + (if hb x 3 = true then 1 else 0)))) := by
  obtain ⟨m, hm, rfl⟩ := small16 h
  exact bc16 m hm
theorem row_zero {W : Int64} : W = 0 ↔ ∀ h, h < 8 → cn W h = 0 := by
  constructor
  · intro e h hh; rw [e]; exact cn_zero h hh
  · intro z
    refine Int64.toBitVec_inj.mp (BitVec.eq_of_getLsbD_eq fun k hk => ?_)
    have h1 := cell_hb (r := W) (i := k / 8) (by omega) (k % 8)
    have h2 := cell_hb (r := 0) (i := k / 8) (by omega) (k % 8)
    rw [cn0.mpr (z (k / 8) (by omega))] at h1
    rw [cn0.mpr (cn_zero (k / 8) (by omega))] at h2
    rw [h1, decide_eq_true (show k % 8 < 8 by omega), Bool.true_and, Bool.true_and, show 8 * (k / 8) + k % 8 = k by omega] at h2
    exact h2
theorem row_pos {W : Int64} (h : cn W 7 ≤ 6) : ¬ W < 0 := by
  intro z
  rw [Int64.lt_iff_toInt_lt] at z
  have e : W.toBitVec.msb = true := by
    rw [BitVec.msb_eq_toInt]
    exact decide_eq_true z
  rw [BitVec.msb_eq_getLsbD_last] at e
  have h1 := cell_hb (r := W) (i := 7) (by omega) 7
  rw [show 8 * 7 + 7 = 64 - 1 from rfl, e] at h1
  have h2 : ∀ n, n ≤ 6 → hb (nI n) 7 = false := by decide
  rw [cell_cn, h2 _ h] at h1
  exact absurd h1 (by decide)
def baseP (wa : Int32) (row : Int64) (T : Nat → Nat) : Bool := (List.range 4).all fun h => !hb wa h || decide (T h = cn row h)
theorem baseP_iff {wa : Int32} {row : Int64} {T : Nat → Nat} : baseP wa row T = true ↔ ∀ h, h < 4 → hb wa h = true → T h = cn row h := by
  unfold baseP
  rw [List.all_eq_true]
  constructor
  · intro z h hh hw
    have := z h (List.mem_range.mpr hh)
    rw [hw] at this
    simpa using this
  · intro z h hh
    have := z h (List.mem_range.mp hh)
    cases e : hb wa h with
    | false => rfl
    | true => simp [this e]
def baseF (wa : Int32) (row : Int64) (T : Nat → Nat) : Nat := if baseP wa row T = true then 1 else 0
theorem cA_zero {ok : Nat → Nat → Bool} {tr : Nat → Nat → Nat → Nat} {wa : Int32} {row : Int64} {h : Nat} (h4 : h < 4) (hw : hb wa h = true) : ∀ (r p : Nat) (T : Nat → Nat), cn row h < T h → cA ok tr (baseF wa row) r p T = 0 := by
  intro r
  induction r with
  | zero => intro p T hT; exact if_neg fun z => by have := baseP_iff.mp z h h4 hw; omega
  | succ r ih =>
    intro p T hT
    have e : ∀ c, (if ok p c = true then cA ok tr (baseF wa row) r (p + 1) (fun h => T h + tr p c h) else 0) = 0 := fun c => by
      split
      · exact ih (p + 1) _ (Nat.lt_of_lt_of_le hT (Nat.le_add_right _ _))
      · rfl
    show sum5 _ = 0
    unfold sum5
    simp only [e]
section WC
variable {n : TN} {a : Nat → Int32} {v : TVi} {path home kin : Nat → Int32}
/-- where a person's track is looked for, and where it could go -/
def rcOf (n : TN) (v : TVi) (st : Int32) (p : Nat) : Int32 := if f_X8_has st (nI p) = true then 0 else f_X2_reach n v (nI p)
def snOf (n : TN) (v : TVi) (st wa : Int32) (p : Nat) : Int32 := (rcOf n v st p &&& wa) &&& (f_X8_cell (gVi_wells v) (f_X8_cell (gVi_homes v) (nI p)) ^^^ (-1))
def unOf (n : TN) (v : TVi) (st wa aw : Int32) (p : Nat) : Int32 := f_J6_bitCount_0f7a4 (rcOf n v st p &&& (snOf n v st wa p ^^^ (-1))) + bI (if f_X8_has aw (nI p) = true then false else true)
theorem reach_hb (W : VR v path home kin) {p : Nat} (hp : p < 6) {i : Nat} (h : hb (f_X2_reach n v (nI p)) i = true) : i < gVi_houses v ∧ hb (f_X8_cell (gVi_paths v) (nI (cn (gVi_homes v) p))) i = true := by
  unfold f_X2_reach at h
  split at h
  · rw [hb_zero] at h; cases h
  · rw [hb_and, Bool.and_eq_true, open_hb n v W.hH, cell_cn (gVi_homes v) p] at h
    exact ⟨h.2.1, h.1⟩
theorem rc_hb (W : VR v path home kin) (st : Int32) {p : Nat} (hp : p < 6) (i : Nat) : hb (rcOf n v st p) i = (!hb st p && hb (f_X2_reach n v (nI p)) i) := by
  unfold rcOf
  rw [has_hb (by omega)]
  cases hb st p
  · rfl
  · exact hb_zero i
theorem sn_hb (W : VR v path home kin) (st wa : Int32) {p : Nat} (hp : p < 6) {i : Nat} (hi : i < 32) : hb (snOf n v st wa p) i = (hb (rcOf n v st p) i && hb wa i && !hb (f_X8_cell (gVi_wells v) (nI (cn (gVi_homes v) p))) i) := by
  unfold snOf
  rw [hb_and, hb_and, hb_not, decide_eq_true hi, cell_cn (gVi_homes v) p, Bool.true_and]
theorem rc_4 (W : VR v path home kin) (st : Int32) {p : Nat} (hp : p < 6) {i : Nat} (hi : 4 ≤ i) : hb (rcOf n v st p) i = false := by
  rw [rc_hb W st hp]
  have : hb (f_X2_reach n v (nI p)) i = false := Bool.eq_false_iff.mpr fun z => by have := (reach_hb W hp z).1; have := W.hH; omega
  rw [this, Bool.and_false]
def b1 (x : Bool) : Nat := if x = true then 1 else 0
theorem un_val (W : VR v path home kin) (st wa aw : Int32) {p : Nat} (hp : p < 6) : unOf n v st wa aw p = nI (b1 (!hb aw p) + (b1 (hb (rcOf n v st p) 0 && !hb (snOf n v st wa p) 0) + (b1 (hb (rcOf n v st p) 1 && !hb (snOf n v st wa p) 1) + (b1 (hb (rcOf n v st p) 2 && !hb (snOf n v st wa p) 2) + b1 (hb (rcOf n v st p) 3 && !hb (snOf n v st wa p) 3))))) := by
  unfold unOf
  rw [bc_hb (fun i hi => by rw [hb_and, rc_4 W st hp hi, Bool.false_and]), has_hb (by omega)]
  have e : ∀ i, i < 4 → hb (rcOf n v st p &&& (snOf n v st wa p ^^^ (-1))) i = (hb (rcOf n v st p) i && !hb (snOf n v st wa p) i) := fun i hi => by
    rw [hb_and, hb_not, decide_eq_true (show i < 32 by omega), Bool.true_and]
  rw [e 0 (by omega), e 1 (by omega), e 2 (by omega), e 3 (by omega)]
  have eb : bI (if hb aw p = true then false else true) = nI (b1 (!hb aw p)) := by cases hb aw p <;> rfl
  rw [eb, nI_add]
  exact congrArg nI (Nat.add_comm _ _)
theorem L195_at (st wa aw : Int32) : ∀ (r k : Nat) (u s : Int64), k + r ≤ 8 → ∀ p, p < 8 → (p < k → f_X8_cell (f_X5_look_L195 v n st wa aw r k u s).1 (nI p) = f_X8_cell u (nI p) ∧ f_X8_cell (f_X5_look_L195 v n st wa aw r k u s).2 (nI p) = f_X8_cell s (nI p)) ∧ (k ≤ p → p < k + r → f_X8_cell (f_X5_look_L195 v n st wa aw r k u s).1 (nI p) = unOf n v st wa aw p &&& 255 ∧ f_X8_cell (f_X5_look_L195 v n st wa aw r k u s).2 (nI p) = snOf n v st wa p &&& 255) := by
  intro r
  induction r with
  | zero => intro k u s _ p _; exact ⟨fun _ => ⟨rfl, rfl⟩, fun h1 h2 => by omega⟩
  | succ r ih =>
    intro k u s hk p hp
    simp only [f_X5_look_L195]
    obtain ⟨h1, h2⟩ := ih (k + 1) _ _ (by omega) p hp
    refine ⟨fun h => ?_, fun h3 h4 => ?_⟩
    · rw [(h1 (by omega)).1, (h1 (by omega)).2, cell_wc (by omega) (by omega), cell_wc (by omega) (by omega), if_neg (by omega), if_neg (by omega)]
      exact ⟨rfl, rfl⟩
    · by_cases e : p = k
      · subst e
        rw [(h1 (by omega)).1, (h1 (by omega)).2, cell_wc (by omega) (by omega), cell_wc (by omega) (by omega), if_pos rfl, if_pos rfl]
        exact ⟨rfl, rfl⟩
      · exact h2 (by omega) (by omega)
theorem and255_4 {x : Int32} (h : ∀ i, 4 ≤ i → hb x i = false) : x &&& 255 = x := by
  obtain ⟨m, hm, rfl⟩ := small16 h
  exact and255_id (by omega)
theorem wyL_4 (s : Int32) (W : Int64) (G : Int64 → Int64) (l : Int64) (y : Nat → Nat) (lb : Nat) (hl : l = lN lb) (hy : ∀ h, h < 4 → (if hb s h = true then (if f_X8_cell W (nI h) ≤ 0 then (0 : Int64) else G (f_X8_withCell W (nI h) (f_X8_cell W (nI h) - 1))) else 0) = lN (y h)) : wyL s W G 4 0 l = lN (lb + y 0 + y 1 + y 2 + y 3) := by
  have step : ∀ h, h < 4 → ∀ z : Nat, (if f_X8_has s (nI h) = true then (if f_X8_cell W (nI h) ≤ 0 then lN z else lN z + G (f_X8_withCell W (nI h) (f_X8_cell W (nI h) - 1))) else lN z) = lN (z + y h) := by
    intro h hh z
    have := hy h hh
    rw [← lN_add, ← this, has_hb (by omega)]
    by_cases c : hb s h = true
    · rw [if_pos c, if_pos c]
      by_cases c2 : f_X8_cell W (nI h) ≤ 0
      · rw [if_pos c2, if_pos c2, Int64.add_zero]
      · rw [if_neg c2, if_neg c2]
    · rw [if_neg c, if_neg c, Int64.add_zero]
  simp only [wyL]
  rw [hl, step 0 (by omega), step 1 (by omega), step 2 (by omega), step 3 (by omega)]
theorem wy_cA {ok : Nat → Nat → Bool} (W : VR v path home kin) (N : NR (gVi_people v) n a) {st wa aw : Int32} {row u s : Int64} {set : Int32} (hr : rowOK (gVi_houses v) wa row)
    (hu : ∀ p, p < gVi_people v → f_X8_cell u (nI p) = unOf n v st wa aw p) (hs : ∀ p, p < gVi_people v → f_X8_cell s (nI p) = snOf n v st wa p) (hok : ∀ p c, ok p c = (okd set (f_X9_goesTo (gVi_houses v) a home path p) p c && hgd st aw p c)) :
    ∀ (r p : Nat) (X : Int64) (T : Nat → Nat), p + r = gVi_people v → (∀ h, h < 8 → hb wa h = false → cn X h = 0) → (∀ h, h < 4 → hb wa h = true → cn X h + T h = cn row h) →
      wy aw u s set r p X = lN (cA ok (trk home path wa) (baseF wa row) r p T) := by
  have hP := W.hP
  have hH := W.hH
  intro r
  induction r with
  | zero =>
    intro p X T _ h1 h2
    simp only [wy, cA, baseF]
    by_cases c : X = 0
    · rw [if_pos c, if_pos (baseP_iff.mpr fun h hh hw => by have := h2 h hh hw; rw [c, cn_zero h (by omega)] at this; omega)]; rfl
    · rw [if_neg c, if_neg (fun z => c (row_zero.mpr fun h hh => ?_))]; · rfl
      cases e : hb wa h with
      | false => exact h1 h hh e
      | true =>
        have h4 : h < 4 := by have := hr.2.2 h e; omega
        have := h2 h h4 e
        have := baseP_iff.mp z h h4 e
        omega
  | succ r ih =>
    intro p X T hpr h1 h2
    have hp : p < 6 := by omega
    have hgr : f_X9_goesTo (gVi_houses v) a home path p = f_X2_reach n v (nI p) := reach_eq N W hp
    have iha := ih (p + 1) X T (by omega) h1 h2
    have T0 : (fun h => T h + trk home path wa p 0 h) = T := funext fun h => by
      unfold trk; rw [if_neg (fun z => by omega)]; rfl
    simp only [wy, cA]
    rw [iha]
    have ok0 : ok p 0 = !hb aw p := by rw [hok]; unfold okd hgd; simp
    have ok1 : ∀ h, ok p (h + 1) = (f_X9_has set (nI p) && hb (rcOf n v st p) h) := fun h => by
      rw [hok]
      show ((f_X9_has set (nI p) && hb (f_X9_goesTo (gVi_houses v) a home path p) h) && ((!hb st p || decide (h + 1 = 0)) && (!hb aw p || !decide (h + 1 = 0)))) = _
      rw [hgr, rc_hb W st hp, decide_eq_false (show ¬ h + 1 = 0 by omega)]
      cases f_X9_has set (nI p) <;> cases hb (f_X2_reach n v (nI p)) h <;> cases hb st p <;> cases hb aw p <;> rfl
    by_cases cs : f_X8_has set (nI p) = true
    · rw [if_pos cs]
      have cs9 : f_X9_has set (nI p) = true := cs
      have ok1 : ∀ h, ok p (h + 1) = hb (rcOf n v st p) h := fun h => by rw [ok1, cs9, Bool.true_and]
      rw [hs p (by omega), hu p (by omega), un_val W st wa aw hp]
      generalize hA : cA ok (trk home path wa) (baseF wa row) r (p + 1) T = A
      -- the term of a house
      have term : ∀ h, h < 4 → (if hb (snOf n v st wa p) h = true then (if f_X8_cell X (nI h) ≤ 0 then (0 : Int64) else wy aw u s set r (p + 1) (f_X8_withCell X (nI h) (f_X8_cell X (nI h) - 1))) else 0) = lN (if hb (snOf n v st wa p) h = true then cA ok (trk home path wa) (baseF wa row) r (p + 1) (fun h' => T h' + trk home path wa p (h + 1) h') else 0) := by
        intro h h4
        by_cases c : hb (snOf n v st wa p) h = true
        · rw [if_pos c, if_pos c]
          have c2 := c
          rw [sn_hb W st wa hp (by omega), rc_hb W st hp] at c2
          simp only [Bool.and_eq_true, Bool.not_eq_true'] at c2
          obtain ⟨⟨⟨_, cr⟩, cw⟩, cwl⟩ := c2
          have hpath := (reach_hb W hp cr).2
          have htr : ∀ h', trk home path wa p (h + 1) h' = if h' = h then 1 else 0 := fun h' => by
            unfold trk
            by_cases e : h' = h
            · subst e
              have hp1 : path (4 * tn (home p) + h') = 1 := by
                rw [W.tnh hp, W.hpath (W.hcn hp) h4, if_neg (fun y => by rw [cwl] at y; cases y), if_pos hpath]
              rw [if_pos rfl, if_pos ⟨by omega, cw, hp1⟩]
            · rw [if_neg e, if_neg (fun z => e (by omega))]
          by_cases cx : cn X h = 0
          · rw [if_pos (cnle.mpr cx), cA_zero h4 cw]; · rfl
            show cn row h < T h + trk home path wa p (h + 1) h
            rw [htr, if_pos rfl]
            have := h2 h h4 cw
            omega
          · rw [if_neg (fun z => cx (cnle.mp z))]
            have hx := cn_lt X h
            refine ih (p + 1) _ _ (by omega) (fun h' hh' z => ?_) (fun h' hh' z => ?_)
            · rw [cell_cn, show (nI (cn X h) - 1 : Int32) = nI (cn X h - 1) from pk_sub (b := 1) (by omega), cn_wc (by omega) hh' (by omega), if_neg (fun e => by rw [e, z] at cw; cases cw)]
              exact h1 h' hh' z
            · rw [cell_cn, show (nI (cn X h) - 1 : Int32) = nI (cn X h - 1) from pk_sub (b := 1) (by omega), cn_wc (by omega) (by omega) (by omega), htr]
              have := h2 h' hh' z
              by_cases e : h' = h
              · subst e; rw [if_pos rfl, if_pos rfl]; omega
              · rw [if_neg (fun y => e y.symm), if_neg e]; omega
        · rw [if_neg c, if_neg c]; rfl
      have hU : ∀ z : Nat, z < 256 → (if nI z = 0 then (0 : Int64) else (nI z).toInt64 * lN A) = lN (z * A) := fun z hz => by
        by_cases c : z = 0
        · subst c; rw [if_pos (show (nI 0 : Int32) = 0 from rfl), Nat.zero_mul]; rfl
        · rw [if_neg (nI_ne0_ (by omega) (by omega)), nI64 z hz, lN_mul]
      have hb1 : ∀ x, b1 x ≤ 1 := fun x => by unfold b1; split <;> omega
      rw [hU _ (by have := hb1 (!hb aw p); have := hb1 (hb (rcOf n v st p) 0 && !hb (snOf n v st wa p) 0); have := hb1 (hb (rcOf n v st p) 1 && !hb (snOf n v st wa p) 1); have := hb1 (hb (rcOf n v st p) 2 && !hb (snOf n v st wa p) 2); have := hb1 (hb (rcOf n v st p) 3 && !hb (snOf n v st wa p) 3); omega)]
      rw [wyL_4 _ _ _ _ _ _ rfl term]
      refine congrArg lN ?_
      have tm : ∀ h, h < 4 → (if ok p (h + 1) = true then cA ok (trk home path wa) (baseF wa row) r (p + 1) (fun h' => T h' + trk home path wa p (h + 1) h') else 0) = b1 (hb (rcOf n v st p) h && !hb (snOf n v st wa p) h) * A + (if hb (snOf n v st wa p) h = true then cA ok (trk home path wa) (baseF wa row) r (p + 1) (fun h' => T h' + trk home path wa p (h + 1) h') else 0) := by
        intro h h4
        rw [ok1]
        by_cases c1 : hb (rcOf n v st p) h = true
        · rw [if_pos c1]
          by_cases c2 : hb (snOf n v st wa p) h = true
          · rw [if_pos c2, c1, c2]; simp [b1]
          · rw [if_neg c2, c1, Bool.eq_false_iff.mpr c2]
            have htr : (fun h' => T h' + trk home path wa p (h + 1) h') = T := funext fun h' => by
              unfold trk
              rw [if_neg (fun z => c2 ?_)]; · rfl
              obtain ⟨z1, z2, z3⟩ := z
              have e : h' = h := by omega
              subst e
              have cr := c1
              rw [rc_hb W st hp, Bool.and_eq_true] at cr
              have hpath := (reach_hb W hp cr.2).2
              rw [W.tnh hp, W.hpath (W.hcn hp) h4] at z3
              have z4 : hb (f_X8_cell (gVi_wells v) (nI (cn (gVi_homes v) p))) h' = false := Bool.eq_false_iff.mpr fun y => by rw [if_pos y] at z3; exact absurd z3 (by decide)
              rw [sn_hb W st wa hp (by omega), c1, z2, z4]; rfl
            rw [htr, hA]
            simp [b1]
        · rw [if_neg c1]
          have c2 : hb (snOf n v st wa p) h = false := by rw [sn_hb W st wa hp (by omega), Bool.eq_false_iff.mpr c1]; rfl
          rw [c2, Bool.eq_false_iff.mpr c1]
          simp [b1]
      unfold sum5
      dsimp only
      rw [tm 0 (by omega), tm 1 (by omega), tm 2 (by omega), tm 3 (by omega), T0, ok0, hA]
      rw [Nat.add_mul, Nat.add_mul, Nat.add_mul, Nat.add_mul]
      have e0 : (if (!hb aw p) = true then A else 0) = b1 (!hb aw p) * A := by cases hb aw p <;> simp [b1]
      rw [e0]
      omega
    · rw [if_neg cs]
      have cs9 : f_X9_has set (nI p) = false := Bool.eq_false_iff.mpr cs
      unfold sum5
      simp only [ok1, cs9, Bool.false_and, Bool.false_eq_true, if_false, Nat.add_zero]
      rw [ok0, T0, has_hb (by omega)]
      cases hb aw p <;> simp <;> rfl
end WC
