/-! what the sights of a moon ask -/
abbrev TLk : Type := Int32 × Int32 × Int64 × Int32
def lk (n : TN) (v : TVi) (kinds moons places values : Nat → Int32) (m : Int32) : Nat → Nat → Int32 → Int32 → Int64 → Int32 → Option TLk
  | 0, _, st, wa, row, aw => some (st, wa, row, aw)
  | r + 1, k, st, wa, row, aw =>
    if f_X4_isOf kinds moons (nI k) 1 m = true ∧ f_X8_has (f_X2_there n v) (f_X4_place places (nI k)) = true then
      lk n v kinds moons places values m r (k + 1) (st ||| (if f_X4_value values (nI k) = 1 then f_X8_bit (f_X4_place places (nI k)) else 0)) wa row (aw ||| (if f_X4_value values (nI k) = 1 then 0 else f_X8_bit (f_X4_place places (nI k))))
    else if f_X4_isOf kinds moons (nI k) 0 m = true ∧ ¬ nI (gVi_houses v) ≤ f_X4_place places (nI k) then
      if f_X8_has wa (f_X4_place places (nI k)) = true ∧ ¬ f_X8_cell row (f_X4_place places (nI k)) = f_X4_value values (nI k) then none
      else lk n v kinds moons places values m r (k + 1) st (wa ||| f_X8_bit (f_X4_place places (nI k))) (f_X8_withCell row (f_X4_place places (nI k)) (f_X4_value values (nI k))) aw
    else lk n v kinds moons places values m r (k + 1) st wa row aw
theorem look_lk (u s : Int64) (n : TN) (v : TVi) (kinds moons places values : Nat → Int32) (m : Int32) : ∀ (r k : Nat) (st wa : Int32) (row : Int64) (aw : Int32),
    (lk n v kinds moons places values m r k st wa row aw = none → (f_X5_look_L24 u s v n places values kinds moons m r k st wa row aw).1 = -1) ∧
    (∀ q, lk n v kinds moons places values m r k st wa row aw = some q → f_X5_look_L24 u s v n places values kinds moons m r k st wa row aw = (q.2.2.1, q.2.2.2, (f_X5_look_L195 v n q.1 q.2.1 q.2.2.2 (gVi_people v) 0 u s).1, (f_X5_look_L195 v n q.1 q.2.1 q.2.2.2 (gVi_people v) 0 u s).2)) := by
  intro r
  induction r with
  | zero =>
    intro k st wa row aw
    refine ⟨fun h => (by cases h), fun q h => ?_⟩
    cases h
    rfl
  | succ r ih =>
    intro k st wa row aw
    simp only [f_X5_look_L24, lk]
    by_cases c1 : f_X4_isOf kinds moons (nI k) 1 m = true
    · by_cases c2 : f_X8_has (f_X2_there n v) (f_X4_place places (nI k)) = true
      · rw [if_pos c1, if_pos c2, if_pos ⟨c1, c2⟩]; exact ih _ _ _ _ _
      · rw [if_pos c1, if_neg c2, if_neg (fun z => c2 z.2)]
        by_cases c3 : f_X4_isOf kinds moons (nI k) 0 m = true
        · by_cases c4 : nI (gVi_houses v) ≤ f_X4_place places (nI k)
          · rw [if_pos c3, if_pos c4, if_neg (fun z => z.2 c4)]; exact ih _ _ _ _ _
          · rw [if_pos c3, if_neg c4, if_pos ⟨c3, c4⟩]
            by_cases c5 : f_X8_has wa (f_X4_place places (nI k)) = true
            · by_cases c6 : f_X8_cell row (f_X4_place places (nI k)) = f_X4_value values (nI k)
              · rw [if_pos c5, if_pos c6, if_neg (fun z => z.2 c6)]; exact ih _ _ _ _ _
              · rw [if_pos c5, if_neg c6, if_pos ⟨c5, c6⟩]; exact ⟨fun _ => rfl, fun q h => (by cases h)⟩
            · rw [if_neg c5, if_neg (fun z => c5 z.1)]; exact ih _ _ _ _ _
        · rw [if_neg c3, if_neg (fun z => c3 z.1)]; exact ih _ _ _ _ _
    · rw [if_neg c1, if_neg (fun z => c1 z.1)]
      by_cases c3 : f_X4_isOf kinds moons (nI k) 0 m = true
      · by_cases c4 : nI (gVi_houses v) ≤ f_X4_place places (nI k)
        · rw [if_pos c3, if_pos c4, if_neg (fun z => z.2 c4)]; exact ih _ _ _ _ _
        · rw [if_pos c3, if_neg c4, if_pos ⟨c3, c4⟩]
          by_cases c5 : f_X8_has wa (f_X4_place places (nI k)) = true
          · by_cases c6 : f_X8_cell row (f_X4_place places (nI k)) = f_X4_value values (nI k)
            · rw [if_pos c5, if_pos c6, if_neg (fun z => z.2 c6)]; exact ih _ _ _ _ _
            · rw [if_pos c5, if_neg c6, if_pos ⟨c5, c6⟩]; exact ⟨fun _ => rfl, fun q h => (by cases h)⟩
          · rw [if_neg c5, if_neg (fun z => c5 z.1)]; exact ih _ _ _ _ _
      · rw [if_neg c3, if_neg (fun z => c3 z.1)]; exact ih _ _ _ _ _
theorem isOf_iff {kinds moons : Nat → Int32} {k : Nat} (hk : k < 6) (a m : Int32) : f_X4_isOf kinds moons (nI k) a m = true ↔ (kinds k = a ∧ moons k = m) := by
  unfold f_X4_isOf
  rw [s_at hk (by omega), s_at hk (by omega)]
  by_cases c1 : kinds k = a
  · by_cases c2 : moons k = m
    · simp [c1, c2]
    · simp [c1, c2]
  · simp [c1]
/-- the tracks in a house that ways leave -/
def cT (home path w : Nat → Int32) (h : Nat) : Nat → Nat → Int32 → Int32
  | 0, _, s => s
  | r + 1, p, s => cT home path w h r (p + 1) (s + bI (if w p = nI (1 + h) then (if path (4 * tn (home p) + h) = 1 then true else false) else false))
theorem L88_cT {sight w path home : Nat → Int32} {k h : Nat} (hh : tn (sight (4 * k + 2)) = h) : ∀ (r p : Nat) (s : Int32), f_X9_isSeen_L88 sight w path home k r p s = cT home path w h r p s := by
  intro r
  induction r with
  | zero => intro p s; rfl
  | succ r ih => intro p s; simp only [f_X9_isSeen_L88, cT]; rw [ih, hh]
theorem cT_TrW {home path w : Nat → Int32} {wa : Int32} {h : Nat} (hw : hb wa h = true) : ∀ (r p s : Nat), (∀ q, p ≤ q → q < p + r → ∃ c, c ≤ 4 ∧ w q = nI c) → h < 4 → cT home path w h r p (nI s) = nI (s + TrW home path wa w r p h) := by
  intro r
  induction r with
  | zero => intro p s _ _; rfl
  | succ r ih =>
    intro p s hc h4
    obtain ⟨c, hc4, ec⟩ := hc p (by omega) (by omega)
    simp only [cT, TrW]
    have e : (nI s + bI (if w p = nI (1 + h) then (if path (4 * tn (home p) + h) = 1 then true else false) else false) : Int32) = nI (s + trk home path wa p (tn (w p)) h) := by
      unfold trk
      rw [ec, tn_nI (by omega)]
      by_cases c1 : c = 1 + h
      · by_cases c2 : path (4 * tn (home p) + h) = 1
        · rw [if_pos (by rw [c1]), if_pos c2, if_pos ⟨c1, hw, c2⟩]; exact nI_add1 s
        · rw [if_pos (by rw [c1]), if_neg c2, if_neg (fun z => c2 z.2.2)]; exact Int32.add_zero _
      · rw [if_neg (fun z => c1 ((nI_eq_ (by omega) (by omega)).mp z)), if_neg (fun z => c1 z.1)]; exact Int32.add_zero _
    rw [e, ih (p + 1) _ (fun q a b => hc q (by omega) (by omega)) h4, Nat.add_assoc]
def InvS (P : Nat) (home path w : Nat → Int32) (q : TLk) : Prop := (∀ p, p < P → (hb q.1 p = true → w p = 0) ∧ (hb q.2.2.2 p = true → ¬ w p = 0)) ∧ ∀ h, h < 4 → hb q.2.1 h = true → cT home path w h P 0 0 = f_X8_cell q.2.2.1 (nI h)
theorem seen_false {H P sc : Nat} {sight w path home now : Nat → Int32} {m : Int32} : ∀ (r k : Nat), f_X9_isSeen_L4 H P sight w path home now m r k false = false := by
  intro r
  induction r with
  | zero => intro k; rfl
  | succ r ih =>
    intro k
    simp only [f_X9_isSeen_L4]
    have e1 : f_X9_isSeen_x1 H P sight w path home m k false = false := by
      unfold f_X9_isSeen_x1
      simp
    have e2 : f_X9_isSeen_x2 H P sight w path home now m k false = false := by
      unfold f_X9_isSeen_x2
      rw [e1]
      simp
    rw [e2]
    exact ih _
def rowOK (H : Nat) (wa : Int32) (row : Int64) : Prop := (∀ h, h < 8 → hb wa h = false → cn row h = 0) ∧ (∀ h, h < 8 → cn row h ≤ 6) ∧ ∀ h, hb wa h = true → h < H
section SEEN
variable {n : TN} {a : Nat → Int32} {v : TVi} {path home kin : Nat → Int32} {sc : Nat} {kinds moons places values sight : Nat → Int32}
theorem seen_lk (W : VR v path home kin) (N : NR (gVi_people v) n a) (S : SR sc kinds moons places values sight) (m : Int32) (w : Nat → Int32) (hwd : ∀ p, p < gVi_people v → ∃ c, c ≤ 4 ∧ w p = nI c) : ∀ (r k : Nat) (st wa : Int32) (row : Int64) (aw : Int32) (b : Bool), k + r = sc → rowOK (gVi_houses v) wa row → (b = true ↔ InvS (gVi_people v) home path w (st, wa, row, aw)) →
    ((f_X9_isSeen_L4 (gVi_houses v) (gVi_people v) sight w path home a m r k b = true ↔ ∃ q, lk n v kinds moons places values m r k st wa row aw = some q ∧ InvS (gVi_people v) home path w q) ∧ ∀ q, lk n v kinds moons places values m r k st wa row aw = some q → rowOK (gVi_houses v) q.2.1 q.2.2.1) := by
  have hP := W.hP
  have hH := W.hH
  intro r
  induction r with
  | zero =>
    intro k st wa row aw b _ hr hb0
    simp only [f_X9_isSeen_L4, lk]
    refine ⟨hb0.trans ⟨fun h => ⟨_, rfl, h⟩, fun ⟨q, e, h⟩ => by cases e; exact h⟩, fun q e => by cases e; exact hr⟩
  | succ r ih =>
    intro k st wa row aw b hk hr hb0
    have hsc := S.1
    obtain ⟨s0, s1, s2, s3, sk⟩ := S.2 k (by omega)
    have hk6 : k < 6 := by omega
    have ep : f_X4_place places (nI k) = places k := s_at hk6 (by omega)
    have ev : f_X4_value values (nI k) = values k := s_at hk6 (by omega)
    simp only [f_X9_isSeen_L4, lk]
    rw [ep, ev]
    unfold f_X9_isSeen_x2 f_X9_isSeen_x1
    rw [s0, s1, s2, s3]
    by_cases cm : moons k = m
    · rcases sk with ⟨h0, _, ⟨j, hj, hp⟩, x, hx, hv⟩ | ⟨h1, _, ⟨j, hj, hp⟩, x, hv⟩ | ⟨h2, _, _, _⟩
      · -- tracks
        have n1 : ¬ (f_X4_isOf kinds moons (nI k) 1 m = true ∧ f_X8_has (f_X2_there n v) (places k) = true) := fun z => by
          have := ((isOf_iff hk6 1 m).mp z.1).1; rw [h0] at this; exact absurd this (by decide)
        rw [if_neg n1, hp, noHouse_eq hH]
        rw [if_neg (show ¬ kinds k = 1 by rw [h0]; decide), if_pos h0, if_pos cm]
        simp only [if_true]
        by_cases ch : j < gVi_houses v
        · have c4 : ¬ nI (gVi_houses v) ≤ nI j := fun z => by have := (nI_le_ (by omega) (by omega)).mp z; omega
          have nh : ¬ f_X8_noHouse v (nI j) = true := by unfold f_X8_noHouse; rw [if_neg (nI_neg (by omega)), if_pos ((nI_lt_ (by omega) (by omega)).mpr ch)]; decide
          rw [if_neg nh, if_pos (show f_X4_isOf kinds moons (nI k) 0 m = true ∧ ¬ nI (gVi_houses v) ≤ nI j from ⟨(isOf_iff hk6 0 m).mpr ⟨h0, cm⟩, c4⟩), hv]
          have hcT : f_X9_isSeen_L88 sight w path home k (gVi_people v) 0 0 = cT home path w j (gVi_people v) 0 0 := L88_cT (by rw [s2, hp]; exact tn_nI (by omega)) _ _ _
          rw [hcT, has_hb (by omega)]
          by_cases c5 : hb wa j = true
          · by_cases c6 : f_X8_cell row (nI j) = nI x
            · rw [if_neg (show ¬ (hb wa j = true ∧ ¬ f_X8_cell row (nI j) = nI x) from fun z => z.2 c6)]
              refine ih _ _ _ _ _ _ (by omega) ?_ ?_
              · refine ⟨fun h hh z => ?_, fun h hh => ?_, fun h z => ?_⟩
                · rw [hb_set (by omega)] at z
                  have z2 : ¬ h = j := fun e => by subst e; simp at z
                  have z1 : hb wa h = false := by simpa [z2] using z
                  rw [cn_wc (by omega) hh (by omega), if_neg (fun e => z2 e.symm)]; exact hr.1 h hh z1
                · rw [cn_wc (by omega) hh (by omega)]
                  split
                  · exact hx
                  · exact hr.2.1 h hh
                · rw [hb_set (by omega), Bool.or_eq_true, decide_eq_true_eq] at z
                  rcases z with z | z
                  · exact hr.2.2 h z
                  · omega
              · have er : ∀ h, h < 4 → f_X8_cell (f_X8_withCell row (nI j) (nI x)) (nI h) = f_X8_cell row (nI h) := fun h hh => by
                  rw [cell_wc (by omega) (by omega), and255_id (by omega)]
                  by_cases e : j = h
                  · subst e; rw [if_pos rfl, c6]
                  · rw [if_neg e]
                have ew : ∀ h, hb (wa ||| f_X8_bit (nI j)) h = hb wa h := fun h => by
                  rw [hb_set (by omega)]
                  by_cases e : h = j
                  · subst e; rw [c5]; rfl
                  · simp [e]
                have hI : InvS (gVi_people v) home path w (st, wa ||| f_X8_bit (nI j), f_X8_withCell row (nI j) (nI x), aw) ↔ InvS (gVi_people v) home path w (st, wa, row, aw) := by
                  unfold InvS
                  refine and_congr_right fun _ => ?_
                  constructor
                  · intro z h hh hw; have := z h hh ((ew h).trans hw); dsimp only at this; rw [er h hh] at this; exact this
                  · intro z h hh hw; dsimp only; rw [er h hh]; exact z h hh ((ew h).symm.trans hw)
                rw [hI, ← hb0]
                cases b with
                | false => simp
                | true =>
                  have := (hb0.mp rfl).2 j hj c5
                  dsimp only at this
                  rw [this, c6]
                  simp
            · rw [if_pos (show (hb wa j = true ∧ ¬ f_X8_cell row (nI j) = nI x) from ⟨c5, c6⟩)]
              refine ⟨?_, fun q e => (by cases e)⟩
              have hb1 : (if b = true then (if cT home path w j (gVi_people v) 0 0 = nI x then true else false) else false) = false := by
                cases b with
                | false => rfl
                | true =>
                  have := (hb0.mp rfl).2 j hj c5
                  dsimp only at this
                  rw [this]
                  simp [c6]
              rw [hb1, seen_false (sc := sc)]
              exact ⟨fun z => (by cases z), fun ⟨q, e, _⟩ => (by cases e)⟩
          · rw [if_neg (show ¬ (hb wa j = true ∧ ¬ f_X8_cell row (nI j) = nI x) from fun z => c5 z.1)]
            refine ih _ _ _ _ _ _ (by omega) ?_ ?_
            · refine ⟨fun h hh z => ?_, fun h hh => ?_, fun h z => ?_⟩
              · rw [hb_set (by omega)] at z
                have z2 : ¬ h = j := fun e => by subst e; simp at z
                have z1 : hb wa h = false := by simpa [z2] using z
                rw [cn_wc (by omega) hh (by omega), if_neg (fun e => z2 e.symm)]; exact hr.1 h hh z1
              · rw [cn_wc (by omega) hh (by omega)]
                split
                · exact hx
                · exact hr.2.1 h hh
              · rw [hb_set (by omega), Bool.or_eq_true, decide_eq_true_eq] at z
                rcases z with z | z
                · exact hr.2.2 h z
                · omega
            · have hI : InvS (gVi_people v) home path w (st, wa ||| f_X8_bit (nI j), f_X8_withCell row (nI j) (nI x), aw) ↔ (InvS (gVi_people v) home path w (st, wa, row, aw) ∧ cT home path w j (gVi_people v) 0 0 = nI x) := by
                unfold InvS
                dsimp only
                constructor
                · rintro ⟨z1, z2⟩
                  refine ⟨⟨z1, fun h hh hw => ?_⟩, ?_⟩
                  · have := z2 h hh (by rw [hb_set (by omega), hw]; rfl)
                    rw [cell_wc (by omega) (by omega), if_neg (fun e => c5 (by rw [e]; exact hw))] at this
                    exact this
                  · have := z2 j hj (by rw [hb_set (by omega)]; simp)
                    rw [cell_wc (by omega) (by omega), if_pos rfl, and255_id (by omega)] at this
                    exact this
                · rintro ⟨⟨z1, z2⟩, z3⟩
                  refine ⟨z1, fun h hh hw => ?_⟩
                  rw [cell_wc (by omega) (by omega), and255_id (by omega)]
                  by_cases e : j = h
                  · subst e; rw [if_pos rfl]; exact z3
                  · rw [if_neg e]
                    refine z2 h hh ?_
                    rw [hb_set (by omega), Bool.or_eq_true, decide_eq_true_eq] at hw
                    exact hw.resolve_right fun y => e y.symm
              rw [hI, ← hb0]
              cases b with
              | false => simp
              | true => simp
        · have c4 : nI (gVi_houses v) ≤ nI j := (nI_le_ (by omega) (by omega)).mpr (by omega)
          have nh : f_X8_noHouse v (nI j) = true := by unfold f_X8_noHouse; rw [if_neg (nI_neg (by omega)), if_neg (fun z => ch ((nI_lt_ (by omega) (by omega)).mp z))]
          rw [if_pos nh, if_neg (show ¬ (f_X4_isOf kinds moons (nI k) 0 m = true ∧ ¬ nI (gVi_houses v) ≤ nI j) from fun z => z.2 c4)]
          exact ih _ _ _ _ _ _ (by omega) hr hb0
      · -- hunger
        have n0 : ¬ (f_X4_isOf kinds moons (nI k) 0 m = true ∧ ¬ nI (gVi_houses v) ≤ places k) := fun z => by
          have := ((isOf_iff hk6 0 m).mp z.1).1; rw [h1] at this; exact absurd this (by decide)
        rw [if_neg n0, if_neg (show ¬ kinds k = 0 by rw [h1]; decide), if_pos h1, if_pos cm, hp, noOne_eq hP]
        simp only [if_true]
        have hthere : f_X8_has (f_X2_there n v) (nI j) = true ↔ (j < gVi_people v ∧ hb (gN_gone n) j = false) := by rw [has_hb (by omega)]; exact there_hb n v hP j
        by_cases ct : f_X8_has (f_X2_there n v) (nI j) = true
        · obtain ⟨t1, t2⟩ := hthere.mp ct
          have np : ¬ f_X8_noPerson v (nI j) = true := by unfold f_X8_noPerson; rw [if_neg (nI_neg (by omega)), if_pos ((nI_lt_ (by omega) (by omega)).mpr t1)]; decide
          rw [if_pos (show f_X4_isOf kinds moons (nI k) 1 m = true ∧ f_X8_has (f_X2_there n v) (nI j) = true from ⟨(isOf_iff hk6 1 m).mpr ⟨h1, cm⟩, ct⟩), if_neg np, tn_nI (by omega), N.isThere (by omega), t2]
          simp only [Bool.not_false, if_true]
          refine ih _ _ _ _ _ _ (by omega) hr ?_
          rw [hv]
          have hI : InvS (gVi_people v) home path w (st ||| (if bI x = 1 then f_X8_bit (nI j) else 0), wa, row, aw ||| (if bI x = 1 then 0 else f_X8_bit (nI j))) ↔ (InvS (gVi_people v) home path w (st, wa, row, aw) ∧ (w j = 0 ↔ x = true)) := by
            unfold InvS
            dsimp only
            cases x with
            | true =>
              rw [if_pos (show bI true = 1 from rfl), if_pos (show bI true = 1 from rfl), Int32.or_zero]
              constructor
              · rintro ⟨z1, z2⟩
                refine ⟨⟨fun p hp => ⟨fun y => (z1 p hp).1 (by rw [hb_set (by omega), y]; rfl), (z1 p hp).2⟩, z2⟩, ?_⟩
                have := (z1 j t1).1 (by rw [hb_set (by omega)]; simp)
                simp [this]
              · rintro ⟨⟨z1, z2⟩, z3⟩
                refine ⟨fun p hp => ⟨fun y => ?_, (z1 p hp).2⟩, z2⟩
                rw [hb_set (by omega), Bool.or_eq_true, decide_eq_true_eq] at y
                rcases y with y | y
                · exact (z1 p hp).1 y
                · rw [y]; exact z3.mpr rfl
            | false =>
              rw [if_neg (show ¬ bI false = 1 by decide), if_neg (show ¬ bI false = 1 by decide), Int32.or_zero]
              constructor
              · rintro ⟨z1, z2⟩
                refine ⟨⟨fun p hp => ⟨(z1 p hp).1, fun y => (z1 p hp).2 (by rw [hb_set (by omega), y]; rfl)⟩, z2⟩, ?_⟩
                have := (z1 j t1).2 (by rw [hb_set (by omega)]; simp)
                simp [this]
              · rintro ⟨⟨z1, z2⟩, z3⟩
                refine ⟨fun p hp => ⟨(z1 p hp).1, fun y => ?_⟩, z2⟩
                rw [hb_set (by omega), Bool.or_eq_true, decide_eq_true_eq] at y
                rcases y with y | y
                · exact (z1 p hp).2 y
                · rw [y]; exact fun e => by cases z3.mp e
          rw [hI, ← hb0]
          by_cases cw : w j = 0
          · rw [cw]; cases b <;> cases x <;> simp [bI]
          · cases b <;> cases x <;> simp [bI, cw]
        · rw [if_neg (show ¬ (f_X4_isOf kinds moons (nI k) 1 m = true ∧ f_X8_has (f_X2_there n v) (nI j) = true) from fun z => ct z.2)]
          have hx : (if f_X8_noPerson v (nI j) = true then b else if f_X9_isThere a (tn (nI j)) = true then (if b = true then (if bI (if w (tn (nI j)) = 0 then true else false) = bI (if values k = 1 then true else false) then true else false) else false) else b) = b := by
            by_cases np : f_X8_noPerson v (nI j) = true
            · rw [if_pos np]
            · rw [if_neg np]
              obtain ⟨i, hi, e⟩ := np_ex hP np
              have e : j = i := (nI_eq_ (by omega) (by omega)).mp e
              subst e
              have t2 : hb (gN_gone n) j = true := by
                cases c : hb (gN_gone n) j with
                | true => rfl
                | false => exact absurd (hthere.mpr ⟨hi, c⟩) ct
              rw [tn_nI (by omega), N.isThere (by omega), t2]
              rfl
          rw [hx]
          exact ih _ _ _ _ _ _ (by omega) hr hb0
      · -- spoons
        have n1 : ¬ (f_X4_isOf kinds moons (nI k) 1 m = true ∧ f_X8_has (f_X2_there n v) (places k) = true) := fun z => by
          have := ((isOf_iff hk6 1 m).mp z.1).1; rw [h2] at this; exact absurd this (by decide)
        have n0 : ¬ (f_X4_isOf kinds moons (nI k) 0 m = true ∧ ¬ nI (gVi_houses v) ≤ places k) := fun z => by
          have := ((isOf_iff hk6 0 m).mp z.1).1; rw [h2] at this; exact absurd this (by decide)
        rw [if_neg n1, if_neg n0, if_neg (show ¬ kinds k = 1 by rw [h2]; decide), if_neg (show ¬ kinds k = 0 by rw [h2]; decide)]
        exact ih _ _ _ _ _ _ (by omega) hr hb0
    · have n1 : ¬ (f_X4_isOf kinds moons (nI k) 1 m = true ∧ f_X8_has (f_X2_there n v) (places k) = true) := fun z => cm ((isOf_iff hk6 1 m).mp z.1).2
      have n0 : ¬ (f_X4_isOf kinds moons (nI k) 0 m = true ∧ ¬ nI (gVi_houses v) ≤ places k) := fun z => cm ((isOf_iff hk6 0 m).mp z.1).2
      rw [if_neg n1, if_neg n0, if_neg cm]
      simp only [Bool.false_eq_true, if_false, ite_self]
      exact ih _ _ _ _ _ _ (by omega) hr hb0
end SEEN
