/-! the tales of class and reference -/
theorem updL_at (f : Nat → Int64) (k : Nat) (x : Int64) (i : Nat) : vp_updL f k x i = if i = k then x else f i := rfl
theorem tailS_mono {F G : Nat → Nat} (h : ∀ y, F y ≤ G y) (g : Int32) : ∀ r y, tailS F g r y ≤ tailS G g r y := by
  intro r
  induction r with
  | zero => intro y; exact Nat.le_refl _
  | succ r ih =>
    intro y
    simp only [tailS]
    have := ih (y + 1)
    have := h y
    split <;> omega
theorem Sm_mono {H : Nat} {now home path : Nat → Int32} {set : Int32} {f g : (Nat → Int32) → Nat} (h : ∀ w, f w ≤ g w) : ∀ (j : Nat) (w : Nat → Int32), Sm H now home path set f j w ≤ Sm H now home path set g j w := by
  intro j
  induction j with
  | zero => intro w; exact h w
  | succ j ih =>
    intro w
    simp only [Sm]
    split
    · exact Nat.add_le_add (ih _) (tailS_mono (fun y => ih _) _ _ _)
    · exact ih _
theorem cZ0 (ok : Nat → Nat → Bool) (tr : Nat → Nat → Nat → Nat) : ∀ (j : Nat) (T : Nat → Nat), cZ ok tr (fun _ => 0) j T = 0 := by
  intro j
  induction j with
  | zero => intro T; rfl
  | succ j ih =>
    intro T
    show sum5 _ = 0
    unfold sum5
    simp only [ih, ite_self]
theorem hgA_iff {st aw : Int32} {w : Nat → Int32} : ∀ (r p : Nat), (∀ q, p ≤ q → q < p + r → ∃ c, c ≤ 4 ∧ w q = nI c) → (hgA st aw w r p = true ↔ ∀ q, p ≤ q → q < p + r → (hb st q = true → w q = 0) ∧ (hb aw q = true → ¬ w q = 0)) := by
  intro r
  induction r with
  | zero => intro p _; exact ⟨fun _ q h1 h2 => by omega, fun _ => rfl⟩
  | succ r ih =>
    intro p hd
    simp only [hgA]
    rw [Bool.and_eq_true, ih (p + 1) (fun q h1 h2 => hd q (by omega) (by omega))]
    obtain ⟨c, hc, ec⟩ := hd p (by omega) (by omega)
    have e0 : w p = 0 ↔ c = 0 := by rw [ec, show (0 : Int32) = nI 0 from rfl]; exact nI_eq_ (by omega) (by omega)
    have e1 : hgd st aw p (tn (w p)) = true ↔ (hb st p = true → w p = 0) ∧ (hb aw p = true → ¬ w p = 0) := by
      rw [e0, ec, tn_nI (by omega)]
      unfold hgd
      cases hb st p <;> cases hb aw p <;> simp
    rw [e1]
    constructor
    · rintro ⟨h1, h2⟩ q h3 h4
      by_cases e : q = p
      · subst e; exact h1
      · exact h2 q (by omega) (by omega)
    · intro h
      exact ⟨h p (by omega) (by omega), fun q h3 h4 => h q (by omega) (by omega)⟩
theorem TrW_le {home path w : Nat → Int32} {wa : Int32} {h : Nat} : ∀ (r p : Nat), TrW home path wa w r p h ≤ r := by
  intro r
  induction r with
  | zero => intro p; exact Nat.le_refl _
  | succ r ih =>
    intro p
    simp only [TrW]
    have := ih (p + 1)
    have : trk home path wa p (tn (w p)) h ≤ 1 := by unfold trk; split <;> omega
    omega
section TALES
variable {n : TN} {a : Nat → Int32} {v : TVi} {path home kin : Nat → Int32} {sc : Nat} {kinds moons places values sight : Nat → Int32}
theorem gs_ok (W : VR v path home kin) (N : NR (gVi_people v) n a) : ∀ j, j < gVi_people v → (∀ i, hb (f_X9_goesTo (gVi_houses v) a home path j) i = true → i < gVi_houses v) ∧ ∃ i, i < 4 ∧ hb (f_X9_goesTo (gVi_houses v) a home path j) i = false := by
  intro j hj
  have hP := W.hP
  rw [reach_eq N W (by omega)]
  refine ⟨fun i hi => (reach_hb W (by omega) hi).1, cn (gVi_homes v) j, W.hcn (by omega), ?_⟩
  refine Bool.eq_false_iff.mpr fun z => ?_
  have := (reach_hb W (by omega) z).2
  rw [W.hself (W.hcn (by omega))] at this
  cases this
theorem ways_end (W : VR v path home kin) (N : NR (gVi_people v) n a) (set moon : Int32) (w : Nat → Int32) : ∃ C, C ≤ 4096 ∧ C = Sm (gVi_houses v) a home path set (seenN (gVi_houses v) (gVi_people v) sc sight path home a moon) (gVi_people v) (f_X9_waysOf_L2 6 0 w) ∧ (f_X9_waysOf (gVi_houses v) (gVi_people v) sc w sight path home a set moon).1 = lN C ∧ f_X9_waysOf_L26_E (gVi_houses v) (gVi_people v) sc sight path home a set moon fuelW 0 true (f_X9_waysOf_L2 6 0 w) = true := by
  have hP := W.hP
  have hH := W.hH
  have hS : ∀ j, j < gVi_people v → isS 16 (f_X9_goesTo (gVi_houses v) a home path j) := fun j _ => goesTo_S hH
  have hl : Sm (gVi_houses v) a home path set (fun _ => 1) (gVi_people v) (f_X9_waysOf_L2 6 0 w) ≤ 4096 := by
    refine Nat.le_trans (Sm_le hH (gVi_people v) (gs_ok W N) _ fun p hp => by rw [L2_zero, if_pos (by omega)]) ?_
    exact Nat.le_trans (Nat.pow_le_pow_right (by omega) hP) (by decide)
  obtain ⟨h1, h2⟩ := ways_sum (sc := sc) (sight := sight) (set := set) (moon := moon) hH hP hS w (by omega)
  refine ⟨_, ?_, rfl, h1, h2⟩
  refine Nat.le_trans (Sm_mono (fun x => ?_) _ _) hl
  unfold seenN
  split <;> omega
theorem ways_moon (W : VR v path home kin) (N : NR (gVi_people v) n a) (S : SR sc kinds moons places values sight) (set m : Int32) (w : Nat → Int32) (u s : Int64) :
    (if (f_X5_look u s v n sc places values kinds moons m).1 < 0 then (0 : Int64) else f_X5_ways_0 (gVi_people v) (f_X5_look u s v n sc places values kinds moons m).2.1 (f_X5_look u s v n sc places values kinds moons m).2.2.1 (f_X5_look u s v n sc places values kinds moons m).2.2.2 set (f_X5_look u s v n sc places values kinds moons m).1) = (f_X9_waysOf (gVi_houses v) (gVi_people v) sc w sight path home a set m).1 := by
  have hP := W.hP
  have hH := W.hH
  obtain ⟨C, hC, eC, h1, -⟩ := ways_end (sc := sc) (sight := sight) W N set m w
  rw [h1, eC]
  have hdig : ∀ p, p < gVi_people v → ∃ c, c ≤ 4 ∧ (f_X9_waysOf_L2 6 0 w) p = nI c := fun p hp => ⟨0, by omega, by rw [L2_zero, if_pos (by omega)]; rfl⟩
  have hz : ∀ p, p < gVi_people v → (f_X9_waysOf_L2 6 0 w) p = 0 := fun p hp => by rw [L2_zero, if_pos (by omega)]
  have hgs := gs_ok W N
  have hrow0 : rowOK (gVi_houses v) 0 0 := ⟨fun h hh _ => cn_zero h hh, fun h hh => (by rw [cn_zero h hh]; omega), fun h hh => (by rw [hb_zero] at hh; cases hh)⟩
  have hseen : ∀ w : Nat → Int32, (∀ p, p < gVi_people v → ∃ c, c ≤ 4 ∧ w p = nI c) → (f_X9_isSeen (gVi_houses v) (gVi_people v) sc sight w path home a m = true ↔ ∃ q, lk n v kinds moons places values m sc 0 0 0 0 0 = some q ∧ InvS (gVi_people v) home path w q) ∧ ∀ q, lk n v kinds moons places values m sc 0 0 0 0 0 = some q → rowOK (gVi_houses v) q.2.1 q.2.2.1 := fun w hw =>
    seen_lk W N S m w hw sc 0 0 0 0 0 true (by omega) hrow0 ⟨fun _ => ⟨fun p hp => ⟨fun z => (by rw [hb_zero] at z; cases z), fun z => (by rw [hb_zero] at z; cases z)⟩, fun h hh z => (by rw [hb_zero] at z; cases z)⟩, fun _ => rfl⟩
  unfold f_X5_look
  obtain ⟨g1, g2⟩ := look_lk u s n v kinds moons places values m sc 0 0 0 0 0
  cases hl : lk n v kinds moons places values m sc 0 0 0 0 0 with
  | none =>
    rw [g1 hl, if_pos (by decide)]
    have := Sm_cZ (P := gVi_people v) (now := a) (home := home) (path := path) (set := set) (st := 0) (aw := 0) (wa := 0) (f := seenN (gVi_houses v) (gVi_people v) sc sight path home a m) (base := fun _ => 0) hH (fun j hj => (hgs j hj).1) (fun w hw => by
      rw [ite_self]
      unfold seenN
      refine if_neg fun z => ?_
      obtain ⟨q, e, _⟩ := (hseen w hw).1.mp z
      rw [hl] at e
      cases e) (gVi_people v) 0 (by omega) (f_X9_waysOf_L2 6 0 w) hdig hz
    rw [this, cZ0, ite_self]
    rfl
  | some q =>
    obtain ⟨st, wa, row, aw⟩ := q
    rw [g2 _ hl]
    dsimp only
    have hr : rowOK (gVi_houses v) wa row := (hseen _ hdig).2 _ hl
    rw [if_neg (row_pos (hr.2.1 7 (by omega)))]
    have := Sm_cZ (P := gVi_people v) (now := a) (home := home) (path := path) (set := set) (st := st) (aw := aw) (wa := wa) (f := seenN (gVi_houses v) (gVi_people v) sc sight path home a m) (base := baseF wa row) hH (fun j hj => (hgs j hj).1) (fun w hw => by
      have h3 := (hseen w hw).1
      rw [hl] at h3
      have h4 : f_X9_isSeen (gVi_houses v) (gVi_people v) sc sight w path home a m = true ↔ (hgA st aw w (gVi_people v) 0 = true ∧ baseP wa row (TrW home path wa w (gVi_people v) 0) = true) := by
        rw [h3, hgA_iff _ _ (fun q _ hq => hw q (by omega)), baseP_iff]
        have hct : ∀ h, h < 4 → hb wa h = true → (cT home path w h (gVi_people v) 0 0 = f_X8_cell row (nI h) ↔ TrW home path wa w (gVi_people v) 0 h = cn row h) := fun h hh hw2 => by
          have e := cT_TrW (home := home) (path := path) (w := w) hw2 (gVi_people v) 0 0 (fun q _ hq => hw q (by omega)) hh
          have e2 : cT home path w h (gVi_people v) 0 0 = nI (TrW home path wa w (gVi_people v) 0 h) := by rw [← Nat.zero_add (TrW home path wa w (gVi_people v) 0 h)]; exact e
          have := TrW_le (home := home) (path := path) (w := w) (wa := wa) (h := h) (gVi_people v) 0
          have := cn_lt row h
          rw [e2, cell_cn, nI_eq_ (by omega) (by omega)]
        constructor
        · rintro ⟨q, e, i1, i2⟩
          cases e
          exact ⟨fun q _ hq => i1 q (by omega), fun h hh hw2 => (hct h hh hw2).mp (i2 h hh hw2)⟩
        · rintro ⟨i1, i2⟩
          exact ⟨_, rfl, fun p hp => i1 p (by omega) (by omega), fun h hh hw2 => (hct h hh hw2).mpr (i2 h hh hw2)⟩
      unfold seenN baseF
      by_cases c1 : hgA st aw w (gVi_people v) 0 = true
      · rw [if_pos c1]
        by_cases c2 : baseP wa row (TrW home path wa w (gVi_people v) 0) = true
        · rw [if_pos c2, if_pos (h4.mpr ⟨c1, c2⟩)]
        · rw [if_neg c2, if_neg (fun z => c2 (h4.mp z).2)]
      · rw [if_neg c1, if_neg (fun z => c1 (h4.mp z).1)]) (gVi_people v) 0 (by omega) (f_X9_waysOf_L2 6 0 w) hdig hz
    rw [this, if_pos (show hgA st aw (f_X9_waysOf_L2 6 0 w) 0 (gVi_people v) = true from rfl), cZ_cA, wy_0 hP, Nat.sub_zero]
    have h8 : ∀ p, p < gVi_people v → f_X8_cell (f_X5_look_L195 v n st wa aw (gVi_people v) 0 u s).1 (nI p) = unOf n v st wa aw p ∧ f_X8_cell (f_X5_look_L195 v n st wa aw (gVi_people v) 0 u s).2 (nI p) = snOf n v st wa p := fun p hp => by
      obtain ⟨e1, e2⟩ := (L195_at (v := v) (n := n) st wa aw (gVi_people v) 0 u s (by omega) p (by omega)).2 (by omega) (by omega)
      have hb1 : ∀ x, b1 x ≤ 1 := fun x => by unfold b1; split <;> omega
      rw [e1, e2]
      refine ⟨?_, and255_4 fun i hi => ?_⟩
      · rw [un_val W st wa aw (by omega)]
        refine and255_id ?_
        have := hb1 (!hb aw p); have := hb1 (hb (rcOf n v st p) 0 && !hb (snOf n v st wa p) 0); have := hb1 (hb (rcOf n v st p) 1 && !hb (snOf n v st wa p) 1); have := hb1 (hb (rcOf n v st p) 2 && !hb (snOf n v st wa p) 2); have := hb1 (hb (rcOf n v st p) 3 && !hb (snOf n v st wa p) 3)
        omega
      · by_cases h32 : i < 32
        · rw [sn_hb W st wa (by omega) h32, rc_4 W st (by omega) hi]; rfl
        · exact hb_big (by omega)
    exact wy_cA W N hr (fun p hp => (h8 p hp).1) (fun p hp => (h8 p hp).2) (fun p c => rfl) (gVi_people v) 0 row (fun _ => 0) (by omega) hr.1 (fun h hh hw2 => Nat.add_zero _)
theorem lN_ifs {p q : Prop} [Decidable p] [Decidable q] : (if p then (if q then (1 : Int64) else (0 : Int64)) else (0 : Int64)) = lN (if p then (if q then 1 else 0) else 0) := by
  by_cases c1 : p
  · rw [if_pos c1, if_pos c1]
    by_cases c2 : q
    · rw [if_pos c2, if_pos c2]; rfl
    · rw [if_neg c2, if_neg c2]; rfl
  · rw [if_neg c1, if_neg c1]; rfl
def tini (n : TN) (v : TVi) (sc : Nat) (kinds moons places values : Nat → Int32) (i : Nat) : Nat := if (nI i &&& (f_X2_there n v ^^^ (-1))) = 0 then (if f_X5_spoonsFit sc kinds moons places values (nI i) (f_X2_there n v) = true then 1 else 0) else 0
theorem L18_at (sc : Nat) (kinds moons places values : Nat → Int32) : ∀ (r k : Nat) (y : Nat → Int64) (i : Nat), f_X5_tell_L18 v n sc kinds moons places values r k y i = if k ≤ i ∧ i < k + r then lN (tini n v sc kinds moons places values i) else y i := by
  intro r
  induction r with
  | zero => intro k y i; rw [if_neg (by omega)]; rfl
  | succ r ih =>
    intro k y i
    simp only [f_X5_tell_L18]
    rw [ih, updL_at]
    by_cases e : i = k
    · subst e
      rw [if_neg (show ¬ (i + 1 ≤ i ∧ i < i + 1 + r) by omega), if_pos (rfl : i = i), if_pos (show i ≤ i ∧ i < i + (r + 1) by omega)]
      unfold tini
      exact lN_ifs
    · rw [if_neg e]
      by_cases h : k ≤ i ∧ i < k + (r + 1)
      · rw [if_pos h, if_pos (by omega)]
      · rw [if_neg h, if_neg (by omega)]
theorem spoons_eq (W : VR v path home kin) (N : NR (gVi_people v) n a) (S : SR sc kinds moons places values sight) (set : Int32) : ∀ (r k : Nat) (b : Bool), k + r = sc → f_X9_isTaken_L4 (gVi_people v) sight a set r k b = (b && f_X5_spoonsFit_L2 kinds moons places values set (f_X2_there n v) r k) := by
  have hP := W.hP
  have hf : ∀ (r k : Nat), f_X9_isTaken_L4 (gVi_people v) sight a set r k false = false := by
    intro r
    induction r with
    | zero => intro k; rfl
    | succ r ih =>
      intro k
      simp only [f_X9_isTaken_L4]
      have e : f_X9_isTaken_x1 (gVi_people v) sight a set k false = false := by
        unfold f_X9_isTaken_x1
        simp
      rw [e]
      exact ih _
  intro r
  induction r with
  | zero => intro k b _; exact (Bool.and_true b).symm
  | succ r ih =>
    intro k b hk
    have hsc := S.1
    obtain ⟨s0, s1, s2, s3, sk⟩ := S.2 k (by omega)
    have hk6 : k < 6 := by omega
    have ep : f_X4_place places (nI k) = places k := s_at hk6 (by omega)
    have ev : f_X4_value values (nI k) = values k := s_at hk6 (by omega)
    simp only [f_X9_isTaken_L4, f_X5_spoonsFit_L2]
    rw [ep, ev]
    have hskip : ∀ c : Prop, [Decidable c] → ¬ c → True := fun _ _ _ => trivial
    have key : ¬ kinds k = 2 → f_X9_isTaken_L4 (gVi_people v) sight a set r (k + 1) (f_X9_isTaken_x1 (gVi_people v) sight a set k b) = (b && (if (if f_X4_isOf kinds moons (nI k) 2 0 = true then (if f_X8_has (f_X2_there n v) (places k) = true then true else false) else false) = true then (if bI (f_X8_has set (places k)) = bI (if values k = 1 then true else false) then false else f_X5_spoonsFit_L2 kinds moons places values set (f_X2_there n v) r (k + 1)) else f_X5_spoonsFit_L2 kinds moons places values set (f_X2_there n v) r (k + 1))) := fun hn => by
      have e1 : f_X9_isTaken_x1 (gVi_people v) sight a set k b = b := by unfold f_X9_isTaken_x1; rw [s0, if_neg hn]
      have e2 : ¬ f_X4_isOf kinds moons (nI k) 2 0 = true := fun z => hn ((isOf_iff hk6 2 0).mp z).1
      rw [e1, if_neg e2, ih _ _ (by omega)]
      simp
    rcases sk with ⟨h0, _⟩ | ⟨h1, _⟩ | ⟨h2, hm, ⟨j, hj, hp⟩, x, hv⟩
    · exact key (by rw [h0]; decide)
    · exact key (by rw [h1]; decide)
    · unfold f_X9_isTaken_x1
      rw [s0, s2, s3, if_pos h2, if_pos ((isOf_iff hk6 2 0).mpr ⟨h2, hm⟩), hp, hv, noOne_eq hP, tn_nI (by omega)]
      have hthere : f_X8_has (f_X2_there n v) (nI j) = true ↔ (j < gVi_people v ∧ hb (gN_gone n) j = false) := by rw [has_hb (by omega)]; exact there_hb n v hP j
      by_cases ct : f_X8_has (f_X2_there n v) (nI j) = true
      · obtain ⟨t1, t2⟩ := hthere.mp ct
        have np : ¬ f_X8_noPerson v (nI j) = true := by unfold f_X8_noPerson; rw [if_neg (nI_neg (by omega)), if_pos ((nI_lt_ (by omega) (by omega)).mpr t1)]; decide
        rw [if_pos ct, if_neg np, N.isThere (by omega), t2]
        simp only [Bool.not_false, if_true]
        show f_X9_isTaken_L4 _ _ _ _ r (k + 1) (if b = true then (if bI (f_X8_has set (nI j)) = bI (if bI x = 1 then true else false) then false else true) else false) = _
        by_cases c : bI (f_X8_has set (nI j)) = bI (if bI x = 1 then true else false)
        · rw [if_pos c, if_pos c, ite_self, hf, Bool.and_false]
        · rw [if_neg c, if_neg c, ih _ _ (by omega)]
          cases b <;> simp
      · rw [if_neg ct]
        simp only [Bool.false_eq_true, if_false]
        have hx : (if f_X8_noPerson v (nI j) = true then b else if f_X9_isThere a j = true then (if b = true then (if bI (f_X9_has set (nI j)) = bI (if bI x = 1 then true else false) then false else true) else false) else b) = b := by
          by_cases np : f_X8_noPerson v (nI j) = true
          · rw [if_pos np]
          · rw [if_neg np]
            obtain ⟨i, hi, e⟩ := np_ex hP np
            have e : j = i := (nI_eq_ (by omega) (by omega)).mp e
            subst e
            have t2 : hb (gN_gone n) j = true := by
              cases c : hb (gN_gone n) j with
              | true => rfl
              | false => exact absurd (hthere.mpr ⟨hi, c⟩) ct
            rw [N.isThere (by omega), t2]
            rfl
        rw [hx]
        exact ih _ _ (by omega)
/-- how many tales: the product over the moons -/
def pC (C : Nat → Nat) : Nat → Nat → Nat
  | 0, _ => 1
  | r + 1, m => C m * pC C r (m + 1)
theorem L42_at {k : Nat} {C : Nat → Nat} (hC : ∀ m w, (f_X9_waysOf (gVi_houses v) (gVi_people v) sc w sight path home a (nI k) (nI m)).1 = lN (C m)) (hC4 : ∀ m, C m ≤ 4096) : ∀ (r m x : Nat) (y : Nat → Int64) (w : Nat → Int32), y k = lN x → x * 4096 ^ r ≤ 68719476736 → ∀ i, (f_X9_layTales_L42 (gVi_houses v) (gVi_people v) sc a sight path home k r m y w).1 i = if i = k then lN (x * pC C r m) else y i := by
  intro r
  induction r with
  | zero =>
    intro m x y w hy _ i
    simp only [f_X9_layTales_L42, pC, Nat.mul_one]
    by_cases e : i = k
    · subst e; rw [if_pos rfl]; exact hy
    · rw [if_neg e]
  | succ r ih =>
    intro m x y w hy hx i
    have h1 : 1 ≤ 4096 ^ r := Nat.pos_of_ne_zero (by intro z; have := Nat.pow_eq_zero.mp z; omega)
    have hx24 : x ≤ 16777216 := by
      have e : x * 4096 ^ (r + 1) = x * 4096 * 4096 ^ r := by rw [Nat.pow_succ, Nat.mul_assoc, Nat.mul_comm (4096 ^ r)]
      have : x * 4096 * 1 ≤ x * 4096 * 4096 ^ r := Nat.mul_le_mul_left _ h1
      omega
    simp only [f_X9_layTales_L42, pC]
    rw [hy]
    by_cases c : x = 0
    · subst c
      rw [if_neg (show ¬ (0 : Int64) < lN 0 by decide)]
      dsimp only
      by_cases e : i = k
      · subst e; rw [if_pos rfl, Nat.zero_mul]; exact hy
      · rw [if_neg e]
    · rw [if_pos (show (0 : Int64) < lN x from (lN_lt (a := 0) (b := x) (by omega) (by omega)).mpr (by omega)), hC, lN_mul]
      rw [ih (m + 1) (x * C m) _ _ (by rw [updL_at, if_pos rfl]) ?_, updL_at]
      · by_cases e : i = k
        · rw [if_pos e, if_pos e, Nat.mul_assoc]
        · rw [if_neg e, if_neg e, if_neg e]
      · have e : x * 4096 ^ (r + 1) = x * 4096 * 4096 ^ r := by rw [Nat.pow_succ, Nat.mul_assoc, Nat.mul_comm (4096 ^ r)]
        have : x * C m * 4096 ^ r ≤ x * 4096 * 4096 ^ r := Nat.mul_le_mul_right _ (Nat.mul_le_mul_left _ (hC4 m))
        omega
theorem L7_at {C : Nat → Nat → Nat} {x : Nat → Nat} (hC : ∀ k m w, (f_X9_waysOf (gVi_houses v) (gVi_people v) sc w sight path home a (nI k) (nI m)).1 = lN (C k m)) (hC4 : ∀ k m, C k m ≤ 4096) (hx1 : ∀ k, x k ≤ 1)
    (hx : ∀ k, k < 64 → (if (nI k &&& (f_X9_there (gVi_people v) a ^^^ (-1))) = 0 then (if f_X9_isTaken (gVi_people v) sc sight a (nI k) = true then (1 : Int64) else (0 : Int64)) else (0 : Int64)) = lN (x k)) :
    ∀ (r k : Nat) (y : Nat → Int64) (w : Nat → Int32) (i : Nat), k + r ≤ 64 → (f_X9_layTales_L7 (gVi_houses v) (gVi_people v) sc a sight path home r k y w).1 i = if k ≤ i ∧ i < k + r then lN (x i * pC (C i) 3 0) else y i := by
  intro r
  induction r with
  | zero => intro k y w i _; rw [if_neg (by omega)]; rfl
  | succ r ih =>
    intro k y w i hk
    simp only [f_X9_layTales_L7]
    rw [ih _ _ _ _ (by omega), hx k (by omega)]
    rw [L42_at (hC k) (hC4 k) 3 0 (x k) _ _ (by rw [updL_at, if_pos rfl]) (by have := hx1 k; have : x k * 4096 ^ 3 ≤ 1 * 4096 ^ 3 := Nat.mul_le_mul_right _ this; omega), updL_at]
    by_cases e : i = k
    · subst e; rw [if_neg (by omega), if_pos rfl, if_pos (by omega)]
    · rw [if_neg e, if_neg e]
      by_cases h : k ≤ i ∧ i < k + (r + 1)
      · rw [if_pos h, if_pos (by omega)]
      · rw [if_neg h, if_neg (by omega)]
theorem L90_at {C : Nat → Nat} {m : Nat} {u s : Int64} (hC : ∀ k, f_X5_tell_x1 v n sc kinds moons places values m u s k = lN (C k)) {x : Nat → Nat} : ∀ (r k : Nat) (y : Nat → Int64), (∀ i, k ≤ i → i < k + r → y i = lN (x i)) → ∀ i, f_X5_tell_L90 v n sc kinds moons places values m u s r k y i = if k ≤ i ∧ i < k + r then lN (x i * C i) else y i := by
  intro r
  induction r with
  | zero => intro k y _ i; rw [if_neg (by omega)]; rfl
  | succ r ih =>
    intro k y hy i
    simp only [f_X5_tell_L90]
    have hstep : ∀ j, (if y k = 0 then y else vp_updL y k (y k * f_X5_tell_x1 v n sc kinds moons places values m u s k)) j = if j = k then lN (x k * C k) else y j := fun j => by
      by_cases c : y k = 0
      · rw [if_pos c]
        by_cases e : j = k
        · subst e
          rw [if_pos rfl, c, ← lN_mul, ← hy j (by omega) (by omega), c, Int64.zero_mul]
        · rw [if_neg e]
      · rw [if_neg c, updL_at, hC, hy k (by omega) (by omega), lN_mul]
    rw [ih _ _ (fun j h1 h2 => by rw [hstep, if_neg (by omega)]; exact hy j (by omega) (by omega)), hstep]
    by_cases e : i = k
    · subst e; rw [if_neg (by omega), if_pos rfl, if_pos (by omega)]
    · rw [if_neg e]
      by_cases h : k ≤ i ∧ i < k + (r + 1)
      · rw [if_pos h, if_pos (by omega)]
      · rw [if_neg h, if_neg (by omega)]
theorem L70_at {C : Nat → Nat → Nat} (hC : ∀ m u s k, f_X5_tell_x1 v n sc kinds moons places values m u s k = lN (C k m)) : ∀ (r m : Nat) (aw : Int32) (u s : Int64) (x : Nat → Nat) (y : Nat → Int64), (∀ i, i < 64 → y i = lN (x i)) → ∀ i, i < 64 → (f_X5_tell_L70 v n sc kinds moons places values r m aw u s y).2.2.2 i = lN (x i * pC (C i) r m) := by
  intro r
  induction r with
  | zero => intro m aw u s x y hy i hi; simp only [f_X5_tell_L70, pC, Nat.mul_one]; exact hy i hi
  | succ r ih =>
    intro m aw u s x y hy i hi
    simp only [f_X5_tell_L70, pC]
    rw [ih (m + 1) _ _ _ (fun i => x i * C i m) _ (fun j hj => ?_) i hi, Nat.mul_assoc]
    rw [L90_at (hC m u s) 64 0 y (fun j _ h => hy j (by omega)), if_pos (by omega)]
theorem tales_eq (W : VR v path home kin) (N : NR (gVi_people v) n a) (S : SR sc kinds moons places values sight) (aw : Int32) (u s : Int64) (fits tales : Nat → Int64) (went : Nat → Int32) :
    ∃ x : Nat → Nat, (∀ i, i < 64 → x i ≤ 68719476736 ∧ (f_X5_tell aw u s v n sc fits kinds moons places values).2.2.2.2 i = lN (x i) ∧ (f_X9_layTales (gVi_houses v) (gVi_people v) sc a tales sight went path home).1 i = lN (x i) ∧ (0 < x i → (nI i &&& (f_X2_there n v ^^^ (-1))) = 0)) := by
  have hc : ∀ k m, ∃ C, C ≤ 4096 ∧ ∀ w, (f_X9_waysOf (gVi_houses v) (gVi_people v) sc w sight path home a (nI k) (nI m)).1 = lN C := fun k m => by
    obtain ⟨C, h1, _, h3, _⟩ := ways_end (sc := sc) (sight := sight) W N (nI k) (nI m) (fun _ => 0)
    refine ⟨C, h1, fun w => ?_⟩
    have e1 := ways_moon W N S (nI k) (nI m) w 0 0
    have e2 := ways_moon W N S (nI k) (nI m) (fun _ => 0) 0 0
    rw [← e1, e2, h3]
  let C : Nat → Nat → Nat := fun k m => (hc k m).choose
  have hC4 : ∀ k m, C k m ≤ 4096 := fun k m => (hc k m).choose_spec.1
  have hCw : ∀ k m w, (f_X9_waysOf (gVi_houses v) (gVi_people v) sc w sight path home a (nI k) (nI m)).1 = lN (C k m) := fun k m => (hc k m).choose_spec.2
  have hCx : ∀ m u s k, f_X5_tell_x1 v n sc kinds moons places values m u s k = lN (C k m) := fun m u s k => by
    rw [← hCw k m (fun _ => 0)]
    exact ways_moon W N S (nI k) (nI m) _ u s
  have hx1 : ∀ i, tini n v sc kinds moons places values i ≤ 1 := fun i => by
    unfold tini
    split
    · split <;> omega
    · omega
  refine ⟨fun i => tini n v sc kinds moons places values i * pC (C i) 3 0, fun i hi => ⟨?_, ?_, ?_, ?_⟩⟩
  · have h0 := hC4 i 0
    have h1 := hC4 i 1
    have h2 := hC4 i 2
    show tini n v sc kinds moons places values i * (C i 0 * (C i 1 * (C i 2 * 1))) ≤ _
    have e : C i 0 * (C i 1 * (C i 2 * 1)) ≤ 4096 * (4096 * (4096 * 1)) := Nat.mul_le_mul h0 (Nat.mul_le_mul h1 (Nat.mul_le_mul_right 1 h2))
    have := Nat.mul_le_mul (hx1 i) e
    omega
  · have h := L70_at hCx 3 0 aw u s (tini n v sc kinds moons places values) (f_X5_tell_L18 v n sc kinds moons places values 64 0 fits) (fun j hj => by rw [L18_at, if_pos (by omega)]) i hi
    unfold f_X5_tell
    dsimp only
    exact h
  · show (f_X9_layTales_L7 (gVi_houses v) (gVi_people v) sc a sight path home 64 0 tales went).1 i = _
    rw [L7_at (x := tini n v sc kinds moons places values) hCw hC4 hx1 (fun k hk => ?_) 64 0 tales went i (by omega), if_pos (by omega)]
    unfold tini
    rw [there_eq N W.hP]
    unfold f_X9_isTaken
    rw [spoons_eq W N S (nI k) sc 0 true (by omega), Bool.true_and]
    exact lN_ifs (p := (nI k &&& (f_X2_there n v ^^^ (-1))) = 0) (q := f_X5_spoonsFit_L2 kinds moons places values (nI k) (f_X2_there n v) sc 0 = true)
  · intro h
    refine Classical.byContradiction fun z => ?_
    have e : tini n v sc kinds moons places values i = 0 := if_neg z
    dsimp only at h
    rw [e, Nat.zero_mul] at h
    omega
end TALES
