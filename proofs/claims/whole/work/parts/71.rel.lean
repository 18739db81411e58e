/-! class and reference: nights, villages -/
theorem hb_iff {x y : Int32} (h : ∀ i, i < 32 → (hb x i = true ↔ hb y i = true)) : x = y := hb_ext fun i hi => Bool.eq_iff_iff.mpr (h i hi)
def accP (c : Nat → Bool) : Nat → Nat → Int32 → Int32
  | 0, _, s => s
  | r + 1, k, s => accP c r (k + 1) (if c k = true then s ||| f_X8_bit (nI k) else s)
theorem accP_hb (c : Nat → Bool) : ∀ (r k : Nat) (s : Int32), k + r ≤ 32 → ∀ i, hb (accP c r k s) i = true ↔ (hb s i = true ∨ (k ≤ i ∧ i < k + r ∧ c i = true)) := by
  intro r
  induction r with
  | zero =>
    intro k s _ i
    simp only [accP]
    constructor
    · exact Or.inl
    · rintro (h | ⟨h1, h2, _⟩)
      · exact h
      · omega
  | succ r ih =>
    intro k s h i
    simp only [accP]
    rw [ih _ _ (by omega)]
    by_cases c1 : c k = true
    · rw [if_pos c1, hb_or, hb_bit (by omega), Bool.or_eq_true, decide_eq_true_eq]
      constructor
      · rintro ((h1 | rfl) | ⟨h1, h2, h3⟩)
        · exact Or.inl h1
        · exact Or.inr ⟨by omega, by omega, c1⟩
        · exact Or.inr ⟨by omega, by omega, h3⟩
      · rintro (h1 | ⟨h1, h2, h3⟩)
        · exact Or.inl (Or.inl h1)
        · by_cases e : i = k
          · exact Or.inl (Or.inr e)
          · exact Or.inr ⟨by omega, by omega, h3⟩
    · rw [if_neg c1]
      constructor
      · rintro (h1 | ⟨h1, h2, h3⟩)
        · exact Or.inl h1
        · exact Or.inr ⟨by omega, by omega, h3⟩
      · rintro (h1 | ⟨h1, h2, h3⟩)
        · exact Or.inl h1
        · by_cases e : i = k
          · subst e; exact absurd h3 c1
          · exact Or.inr ⟨by omega, by omega, h3⟩
theorem accP_0 {c : Nat → Bool} {r : Nat} (h : r ≤ 32) (i : Nat) : hb (accP c r 0 0) i = true ↔ (i < r ∧ c i = true) := by
  rw [accP_hb c r 0 0 (by omega), hb_zero]
  constructor
  · rintro (h1 | ⟨_, h1, h2⟩)
    · cases h1
    · exact ⟨by omega, h2⟩
  · rintro ⟨h1, h2⟩
    exact Or.inr ⟨by omega, by omega, h2⟩
theorem or_if {c : Prop} [Decidable c] {s b : Int32} : s ||| (if c then b else 0) = if c then s ||| b else s := by
  by_cases h : c
  · rw [if_pos h, if_pos h]
  · rw [if_neg h, if_neg h, Int32.or_zero]
theorem or_ifn {c : Prop} [Decidable c] {s b : Int32} : s ||| (if c then 0 else b) = if ¬ c then s ||| b else s := by
  by_cases h : c
  · rw [if_pos h, if_neg (fun z => z h), Int32.or_zero]
  · rw [if_neg h, if_pos h]
theorem bI_eq1 {b : Bool} : bI b = 1 ↔ b = true := by cases b <;> decide
theorem bI_eq0 {b : Bool} : bI b = 0 ↔ b = false := by cases b <;> decide
def firstP (c : Nat → Bool) : Nat → Nat → Int32
  | 0, _ => -9
  | r + 1, k => if c k = true then nI k else firstP c r (k + 1)
theorem firstP_ext {c d : Nat → Bool} : ∀ (r s k : Nat), (∀ i, k ≤ i → i < k + r → c i = d i) → (∀ i, k + r ≤ i → i < k + r + s → d i = false) → firstP c r k = firstP d (r + s) k := by
  intro r
  induction r with
  | zero =>
    intro s
    induction s with
    | zero => intro k _ _; rfl
    | succ s ih =>
      intro k h1 h2
      show -9 = firstP d (0 + s + 1) k
      simp only [firstP]
      rw [if_neg (by rw [h2 k (by omega) (by omega)]; decide)]
      exact ih (k + 1) (fun i _ _ => by omega) (fun i a b => h2 i (by omega) (by omega))
  | succ r ih =>
    intro s k h1 h2
    have e : r + 1 + s = r + s + 1 := by omega
    rw [e]
    simp only [firstP]
    rw [h1 k (by omega) (by omega)]
    split
    · rfl
    · exact ih s (k + 1) (fun i a b => h1 i (by omega) (by omega)) (fun i a b => h2 i (by omega) (by omega))
theorem firstP_range {c : Nat → Bool} : ∀ (r k : Nat), firstP c r k = -9 ∨ ∃ j, k ≤ j ∧ j < k + r ∧ c j = true ∧ firstP c r k = nI j := by
  intro r
  induction r with
  | zero => intro k; exact Or.inl rfl
  | succ r ih =>
    intro k
    simp only [firstP]
    split
    · rename_i h; exact Or.inr ⟨k, by omega, by omega, h, rfl⟩
    · rcases ih (k + 1) with h | ⟨j, h1, h2, h3, h4⟩
      · exact Or.inl h
      · exact Or.inr ⟨j, by omega, by omega, h3, h4⟩
theorem bn_first (x : Int32) : ∀ (r k : Nat), k + r ≤ 32 → f_X8_bitNumbered_L4 x 0 r k 0 = firstP (hb x) r k := by
  intro r
  induction r with
  | zero => intro k _; rfl
  | succ r ih =>
    intro k h
    simp only [f_X8_bitNumbered_L4, firstP, if_true]
    rw [has_hb (by omega), ih (k + 1) (by omega)]
def NR (P : Nat) (n : TN) (a : Nat → Int32) : Prop :=
  a 0 = gN_number n ∧ (∀ h, h < 4 → a (1 + h) = f_X8_cell (gN_sheep n) (nI h)) ∧ (∀ h, h < 4 → a (5 + h) = f_X2_boltOf n (nI h)) ∧ (∀ h, h < 4 → a (9 + h) = f_X8_cell (gN_tracks n) (nI h)) ∧ (∀ p, p < 6 → a (13 + 5 * p + 0) = bI (hb (gN_wolves n) p)) ∧ (∀ p, p < 6 → a (13 + 5 * p + 1) = bI (hb (gN_bitten n) p)) ∧ (∀ p, p < 6 → a (13 + 5 * p + 2) = bI (hb (gN_gone n) p)) ∧ (∀ p, p < 6 → a (13 + 5 * p + 3) = bI (hb (gN_out n) p)) ∧ (∀ p, p < 6 → a (13 + 5 * p + 4) = if p < P then f_X2_biterOf n (nI p) else 0)
theorem NR.num {P n a} (h : NR P n a) : a 0 = gN_number n := h.1
theorem NR.sheep {P n a} (h : NR P n a) {i : Nat} (hi : i < 4) : a (1 + i) = f_X8_cell (gN_sheep n) (nI i) := h.2.1 i hi
theorem NR.bolt {P n a} (h : NR P n a) {i : Nat} (hi : i < 4) : a (5 + i) = f_X2_boltOf n (nI i) := h.2.2.1 i hi
theorem NR.track {P n a} (h : NR P n a) {i : Nat} (hi : i < 4) : a (9 + i) = f_X8_cell (gN_tracks n) (nI i) := h.2.2.2.1 i hi
theorem NR.wolf {P n a} (h : NR P n a) {i : Nat} (hi : i < 6) : f_X9_of a i 0 = bI (hb (gN_wolves n) i) := h.2.2.2.2.1 i hi
theorem NR.bitt {P n a} (h : NR P n a) {i : Nat} (hi : i < 6) : f_X9_of a i 1 = bI (hb (gN_bitten n) i) := h.2.2.2.2.2.1 i hi
theorem NR.gone {P n a} (h : NR P n a) {i : Nat} (hi : i < 6) : f_X9_of a i 2 = bI (hb (gN_gone n) i) := h.2.2.2.2.2.2.1 i hi
theorem NR.out {P n a} (h : NR P n a) {i : Nat} (hi : i < 6) : f_X9_of a i 3 = bI (hb (gN_out n) i) := h.2.2.2.2.2.2.2.1 i hi
theorem NR.biter {P n a} (h : NR P n a) {i : Nat} (hi : i < 6) : f_X9_of a i 4 = if i < P then f_X2_biterOf n (nI i) else 0 := h.2.2.2.2.2.2.2.2 i hi
theorem NR.isThere {P n a} (h : NR P n a) {i : Nat} (hi : i < 6) : f_X9_isThere a i = !hb (gN_gone n) i := by
  unfold f_X9_isThere
  rw [h.gone hi]
  cases hb (gN_gone n) i <;> decide
def VR (v : TVi) (path home kin : Nat → Int32) : Prop :=
  gVi_houses v ≤ 4 ∧ gVi_people v ≤ 6 ∧ (∀ a, a < 4 → ∀ b, b < 4 → path (4 * a + b) = if hb (f_X8_cell (gVi_wells v) (nI a)) b = true then 2 else if hb (f_X8_cell (gVi_paths v) (nI a)) b = true then 1 else 0) ∧ (∀ a, a < 4 → ∀ b, hb (f_X8_cell (gVi_wells v) (nI a)) b = true → hb (f_X8_cell (gVi_paths v) (nI a)) b = true) ∧ (∀ a, a < 4 → ∀ b, hb (f_X8_cell (gVi_paths v) (nI a)) b = true → b < gVi_houses v) ∧ (∀ p, p < 6 → home p = f_X8_cell (gVi_homes v) (nI p)) ∧ (∀ p, p < 6 → cn (gVi_homes v) p < 4) ∧ (∀ p, p < gVi_people v → cn (gVi_homes v) p < gVi_houses v) ∧ (∀ p, p < 6 → kin p = f_X8_cell (gVi_kin v) (nI p)) ∧ (∀ a, a < 4 → hb (f_X8_cell (gVi_paths v) (nI a)) a = false)
theorem VR.hH {v path home kin} (h : VR v path home kin) : gVi_houses v ≤ 4 := h.1
theorem VR.hP {v path home kin} (h : VR v path home kin) : gVi_people v ≤ 6 := h.2.1
theorem VR.hpath {v path home kin} (h : VR v path home kin) {a b : Nat} (ha : a < 4) (hb_ : b < 4) : path (4 * a + b) = if hb (f_X8_cell (gVi_wells v) (nI a)) b = true then 2 else if hb (f_X8_cell (gVi_paths v) (nI a)) b = true then 1 else 0 := h.2.2.1 a ha b hb_
theorem VR.hwell {v path home kin} (h : VR v path home kin) {a b : Nat} (ha : a < 4) (hw : hb (f_X8_cell (gVi_wells v) (nI a)) b = true) : hb (f_X8_cell (gVi_paths v) (nI a)) b = true := h.2.2.2.1 a ha b hw
theorem VR.hpt {v path home kin} (h : VR v path home kin) {a b : Nat} (ha : a < 4) (hw : hb (f_X8_cell (gVi_paths v) (nI a)) b = true) : b < gVi_houses v := h.2.2.2.2.1 a ha b hw
theorem VR.hhome {v path home kin} (h : VR v path home kin) {p : Nat} (hp : p < 6) : home p = f_X8_cell (gVi_homes v) (nI p) := h.2.2.2.2.2.1 p hp
theorem VR.hcn {v path home kin} (h : VR v path home kin) {p : Nat} (hp : p < 6) : cn (gVi_homes v) p < 4 := h.2.2.2.2.2.2.1 p hp
theorem VR.hin {v path home kin} (h : VR v path home kin) {p : Nat} (hp : p < gVi_people v) : cn (gVi_homes v) p < gVi_houses v := h.2.2.2.2.2.2.2.1 p hp
theorem VR.hkin {v path home kin} (h : VR v path home kin) {p : Nat} (hp : p < 6) : kin p = f_X8_cell (gVi_kin v) (nI p) := h.2.2.2.2.2.2.2.2.1 p hp
theorem VR.hself {v path home kin} (h : VR v path home kin) {a : Nat} (ha : a < 4) : hb (f_X8_cell (gVi_paths v) (nI a)) a = false := h.2.2.2.2.2.2.2.2.2 a ha
theorem VR.tnh {v path home kin} (h : VR v path home kin) {p : Nat} (hp : p < 6) : tn (home p) = cn (gVi_homes v) p := by
  rw [h.hhome hp, cell_cn]
  exact tn_nI (by have := cn_lt (gVi_homes v) p; omega)
theorem VR.hom {v path home kin} (h : VR v path home kin) : ∀ q, q < 6 → home q = nI (tn (home q)) ∧ tn (home q) < 4 := fun q hq => by
  rw [h.tnh hq]
  exact ⟨by rw [h.hhome hq, cell_cn], h.hcn hq⟩
/-! ranges -/
theorem inI (x lo hi : Int32) : f_X9_in x.toInt64 lo.toInt64 hi.toInt64 = true ↔ (¬ x < lo ∧ ¬ hi < x) := by
  unfold f_X9_in
  by_cases h1 : x < lo
  · rw [if_pos ((fa_wide_lt _ _).mpr h1)]; simp [h1]
  · rw [if_neg (fun z => h1 ((fa_wide_lt _ _).mp z))]
    by_cases h2 : hi < x
    · rw [if_pos ((fa_wide_lt _ _).mpr h2)]; simp [h2]
    · rw [if_neg (fun z => h2 ((fa_wide_lt _ _).mp z))]; simp [h1, h2]
theorem in_nat {P : Nat} (hP : P ≤ 6) (p : Int32) : f_X9_in p.toInt64 0 ((nI P - 1).toInt64) = true ↔ (¬ p < 0 ∧ p < nI P) := by
  have h := inI p 0 (nI P - 1)
  rw [show (0 : Int32).toInt64 = 0 from rfl] at h
  rw [h]
  refine and_congr_right fun h0 => ?_
  obtain ⟨j, hj, rfl⟩ := nI_of h0
  cases P with
  | zero =>
    constructor
    · intro z
      refine absurd ?_ z
      have : (nI 0 - 1 : Int32) < 0 := by decide
      exact Int32.lt_of_lt_of_le this (Int32.not_lt.mp h0)
    · intro z; exact absurd z h0
  | succ P =>
    rw [show (nI (P + 1) - 1 : Int32) = nI P from pk_sub (a := P + 1) (b := 1) (by omega), nI_lt_ (by omega) hj, nI_lt_ hj (by omega)]
    omega
theorem noOne_eq {v : TVi} (hP : gVi_people v ≤ 6) (p : Int32) : f_X9_noOne (gVi_people v) p = f_X8_noPerson v p := by
  unfold f_X9_noOne f_X8_noPerson
  have h := in_nat hP p
  by_cases c : f_X9_in p.toInt64 0 ((nI (gVi_people v) - 1).toInt64) = true
  · rw [if_pos c, if_neg (h.mp c).1, if_pos (h.mp c).2]
  · rw [if_neg c]
    by_cases c1 : p < 0
    · rw [if_pos c1]
    · rw [if_neg c1, if_neg (fun z => c (h.mpr ⟨c1, z⟩))]
theorem noHouse_eq {v : TVi} (hP : gVi_houses v ≤ 4) (p : Int32) : f_X9_noHouse (gVi_houses v) p = f_X8_noHouse v p := by
  unfold f_X9_noHouse f_X8_noHouse
  have h := in_nat (P := gVi_houses v) (by omega) p
  by_cases c : f_X9_in p.toInt64 0 ((nI (gVi_houses v) - 1).toInt64) = true
  · rw [if_pos c, if_neg (h.mp c).1, if_pos (h.mp c).2]
  · rw [if_neg c]
    by_cases c1 : p < 0
    · rw [if_pos c1]
    · rw [if_neg c1, if_neg (fun z => c (h.mpr ⟨c1, z⟩))]
theorem np_ex {v : TVi} (hP : gVi_people v ≤ 6) {p : Int32} (h : ¬ f_X8_noPerson v p = true) : ∃ j, j < gVi_people v ∧ p = nI j := by
  unfold f_X8_noPerson at h
  by_cases c1 : p < 0
  · rw [if_pos c1] at h; exact absurd rfl h
  · rw [if_neg c1] at h
    by_cases c2 : p < nI (gVi_people v)
    · obtain ⟨j, hj, rfl⟩ := nI_of c1
      exact ⟨j, (nI_lt_ hj (by omega)).mp c2, rfl⟩
    · rw [if_neg c2] at h; exact absurd rfl h
theorem nh_ex {v : TVi} (hP : gVi_houses v ≤ 4) {p : Int32} (h : ¬ f_X8_noHouse v p = true) : ∃ j, j < gVi_houses v ∧ p = nI j := by
  unfold f_X8_noHouse at h
  by_cases c1 : p < 0
  · rw [if_pos c1] at h; exact absurd rfl h
  · rw [if_neg c1] at h
    by_cases c2 : p < nI (gVi_houses v)
    · obtain ⟨j, hj, rfl⟩ := nI_of c1
      exact ⟨j, (nI_lt_ hj (by omega)).mp c2, rfl⟩
    · rw [if_neg c2] at h; exact absurd rfl h
/-! sets -/
theorem there_acc (now : Nat → Int32) : ∀ (r k : Nat) (s : Int32), f_X9_there_L4 now r k s = accP (fun i => f_X9_isThere now i) r k s := by
  intro r
  induction r with
  | zero => intro k s; rfl
  | succ r ih => intro k s; simp only [f_X9_there_L4]; rw [ih, or_if]; rfl
theorem there_hb (n : TN) (v : TVi) (hP : gVi_people v ≤ 6) (i : Nat) : hb (f_X2_there n v) i = true ↔ (i < gVi_people v ∧ hb (gN_gone n) i = false) := by
  unfold f_X2_there
  rw [hb_and, hb_below (by omega), hb_not]
  simp only [Bool.and_eq_true, decide_eq_true_eq, Bool.not_eq_true']
  constructor
  · rintro ⟨h1, _, h2⟩; exact ⟨h1, h2⟩
  · rintro ⟨h1, h2⟩; exact ⟨h1, by omega, h2⟩
theorem there_eq {n a v} (R : NR (gVi_people v) n a) (hP : gVi_people v ≤ 6) : f_X9_there (gVi_people v) a = f_X2_there n v := by
  refine hb_iff fun i _ => ?_
  unfold f_X9_there
  rw [there_acc, accP_0 (by omega), there_hb n v hP]
  refine and_congr_right fun hi => ?_
  rw [R.isThere (by omega), Bool.not_eq_true']
theorem wolves_acc (now : Nat → Int32) : ∀ (r k : Nat) (s : Int32), f_X9_wolves_L4 now r k s = accP (fun i => decide (f_X9_of now i 0 = 1) && f_X9_isThere now i) r k s := by
  intro r
  induction r with
  | zero => intro k s; rfl
  | succ r ih =>
    intro k s
    simp only [f_X9_wolves_L4, accP]
    rw [ih]
    congr 1
    by_cases c1 : f_X9_of now k 0 = 1
    · rw [if_pos c1, or_if]; simp only [c1, decide_true, Bool.true_and]; rfl
    · rw [if_neg c1, Int32.or_zero]; simp only [c1, decide_false, Bool.false_and]; rfl
theorem wolves_eq {n a v} (R : NR (gVi_people v) n a) (hP : gVi_people v ≤ 6) : f_X9_wolves (gVi_people v) a = gN_wolves n &&& f_X2_there n v := by
  refine hb_iff fun i _ => ?_
  unfold f_X9_wolves
  rw [wolves_acc, accP_0 (by omega), hb_and]
  simp only [Bool.and_eq_true]
  rw [there_hb n v hP]
  constructor
  · rintro ⟨h1, h2⟩
    rw [R.wolf (by omega), R.isThere (by omega)] at h2
    simp only [Bool.and_eq_true, decide_eq_true_eq, Bool.not_eq_true', bI_eq1] at h2
    exact ⟨h2.1, h1, h2.2⟩
  · rintro ⟨h1, h2, h3⟩
    refine ⟨h2, ?_⟩
    rw [R.wolf (by omega), R.isThere (by omega)]
    simp only [Bool.and_eq_true, decide_eq_true_eq, Bool.not_eq_true', bI_eq1]
    exact ⟨h1, h3⟩
theorem boltOf_0 {n : TN} {h : Nat} (hh : h < 32) : f_X2_boltOf n (nI h) = 0 ↔ (hb (gN_bolted n) h = false ∧ hb (gN_barred n) h = false) := by
  unfold f_X2_boltOf
  rw [has_hb hh, has_hb hh]
  cases hb (gN_barred n) h <;> cases hb (gN_bolted n) h <;> decide
theorem boltOf_2 {n : TN} {h : Nat} (hh : h < 32) : f_X2_boltOf n (nI h) = 2 ↔ hb (gN_barred n) h = true := by
  unfold f_X2_boltOf
  rw [has_hb hh, has_hb hh]
  cases hb (gN_barred n) h <;> cases hb (gN_bolted n) h <;> decide
theorem open_acc (now : Nat → Int32) : ∀ (r k : Nat) (s : Int32), f_X9_open_L4 now r k s = accP (fun i => decide (now (5 + i) = 0)) r k s := by
  intro r
  induction r with
  | zero => intro k s; rfl
  | succ r ih => intro k s; simp only [f_X9_open_L4, accP, decide_eq_true_eq]; rw [ih, or_if]; rfl
theorem open_hb (n : TN) (v : TVi) (hH : gVi_houses v ≤ 4) (i : Nat) : hb (f_X2_openHouses n v) i = true ↔ (i < gVi_houses v ∧ hb (gN_bolted n) i = false ∧ hb (gN_barred n) i = false) := by
  unfold f_X2_openHouses
  rw [hb_and, hb_and, hb_below (by omega), hb_not, hb_not]
  simp only [Bool.and_eq_true, decide_eq_true_eq, Bool.not_eq_true']
  constructor
  · rintro ⟨⟨h1, _, h2⟩, _, h3⟩; exact ⟨h1, h2, h3⟩
  · rintro ⟨h1, h2, h3⟩; exact ⟨⟨h1, by omega, h2⟩, by omega, h3⟩
theorem open_eq {P n a v} (R : NR P n a) (hH : gVi_houses v ≤ 4) : f_X9_open (gVi_houses v) a = f_X2_openHouses n v := by
  refine hb_iff fun i _ => ?_
  unfold f_X9_open
  rw [open_acc, accP_0 (by omega), open_hb n v hH]
  refine and_congr_right fun hi => ?_
  rw [R.bolt (by omega), decide_eq_true_eq, boltOf_0 (by omega)]
theorem nextTo_acc (path : Nat → Int32) (p1 : Nat) (p2 : Int32) : ∀ (r k : Nat) (s : Int32), f_X9_nextTo_L5 path p1 p2 r k s = accP (fun i => !decide (path (4 * p1 + i) < p2)) r k s := by
  intro r
  induction r with
  | zero => intro k s; rfl
  | succ r ih =>
    intro k s
    simp only [f_X9_nextTo_L5, accP]
    rw [ih]
    congr 1
    by_cases c1 : path (4 * p1 + k) < p2
    · rw [if_pos c1, Int32.or_zero]; simp only [c1, decide_true, Bool.not_true]; rfl
    · rw [if_neg c1]; simp only [c1, decide_false, Bool.not_false, if_true]; rfl
theorem nextTo_1 {v path home kin} (R : VR v path home kin) {a : Nat} (ha : a < 4) : f_X9_nextTo (gVi_houses v) path a 1 = f_X8_cell (gVi_paths v) (nI a) := by
  have hH := R.hH
  refine hb_iff fun i _ => ?_
  unfold f_X9_nextTo
  rw [nextTo_acc, accP_0 (by omega)]
  constructor
  · rintro ⟨h1, h2⟩
    rw [R.hpath ha (by omega)] at h2
    by_cases c1 : hb (f_X8_cell (gVi_wells v) (nI a)) i = true
    · exact R.hwell ha c1
    · rw [if_neg c1] at h2
      by_cases c2 : hb (f_X8_cell (gVi_paths v) (nI a)) i = true
      · exact c2
      · rw [if_neg c2] at h2; exact absurd h2 (by decide)
  · intro h
    have hi := R.hpt ha h
    refine ⟨hi, ?_⟩
    rw [R.hpath ha (by omega), if_pos h]
    split <;> decide
theorem nextTo_2 {v path home kin} (R : VR v path home kin) {a : Nat} (ha : a < 4) : f_X9_nextTo (gVi_houses v) path a 2 = f_X8_cell (gVi_wells v) (nI a) := by
  have hH := R.hH
  refine hb_iff fun i _ => ?_
  unfold f_X9_nextTo
  rw [nextTo_acc, accP_0 (by omega)]
  constructor
  · rintro ⟨h1, h2⟩
    rw [R.hpath ha (by omega)] at h2
    by_cases c1 : hb (f_X8_cell (gVi_wells v) (nI a)) i = true
    · exact c1
    · rw [if_neg c1] at h2
      by_cases c2 : hb (f_X8_cell (gVi_paths v) (nI a)) i = true
      · rw [if_pos c2] at h2; exact absurd h2 (by decide)
      · rw [if_neg c2] at h2; exact absurd h2 (by decide)
  · intro h
    have hi := R.hpt ha (R.hwell ha h)
    refine ⟨hi, ?_⟩
    rw [R.hpath ha (by omega), if_pos h]
    decide
theorem reach_eq {P n a v path home kin} (R : NR P n a) (W : VR v path home kin) {p : Nat} (hp : p < 6) : f_X9_goesTo (gVi_houses v) a home path p = f_X2_reach n v (nI p) := by
  have h4 := W.hcn hp
  unfold f_X9_goesTo f_X2_reach
  rw [W.tnh hp, R.bolt h4, cell_cn (gVi_homes v) p, has_hb (by omega), nextTo_1 W h4, open_eq R W.hH]
  by_cases c : hb (gN_barred n) (cn (gVi_homes v) p) = true
  · rw [if_pos ((boltOf_2 (by omega)).mpr c), if_pos c]
  · rw [if_neg (fun z => c ((boltOf_2 (by omega)).mp z)), if_neg c]
theorem goals_eq {P n a v path home kin} (R : NR P n a) (W : VR v path home kin) {p : Nat} (hp : p < 6) : f_X9_mayOf (gVi_houses v) a home path p = f_X2_goals n v (nI p) := by
  unfold f_X9_mayOf f_X2_goals
  rw [R.wolf hp, R.isThere hp, R.out hp, reach_eq R W hp, has_hb (by omega), hb_and, hb_and, hb_not, hb_not]
  rw [show decide (p < 32) = true from decide_eq_true (by omega)]
  cases hb (gN_wolves n) p <;> cases hb (gN_gone n) p <;> cases hb (gN_out n) p <;> rfl
theorem dw_acc (v : TVi) (p1 : Int32) : ∀ (r k : Nat) (s : Int32), f_X7_dwellers_L4 v p1 r k s = accP (fun i => decide (f_X8_cell (gVi_homes v) (nI i) = p1)) r k s := by
  intro r
  induction r with
  | zero => intro k s; rfl
  | succ r ih => intro k s; simp only [f_X7_dwellers_L4, accP, decide_eq_true_eq]; rw [ih]
theorem dw_hb (v : TVi) (hP : gVi_people v ≤ 6) (p1 : Int32) (i : Nat) : hb (f_X7_dwellers v p1) i = true ↔ (i < gVi_people v ∧ f_X8_cell (gVi_homes v) (nI i) = p1) := by
  unfold f_X7_dwellers
  rw [dw_acc, accP_0 (by omega), decide_eq_true_eq]
def preyC (now home kin : Nat → Int32) (p1 p2 : Nat) (k : Nat) : Bool := decide (home k = nI p2) && f_X9_isThere now k && decide (f_X9_of now k 0 = 0) && decide (f_X9_of now k 1 = 0) && !f_X9_has (kin p1) (nI k)
theorem prey_first (now home kin : Nat → Int32) (p1 p2 : Nat) (h0 : now (1 + p2) = 0) : ∀ (r k : Nat), f_X9_preyOf_L2 now home kin p1 p2 r k = firstP (preyC now home kin p1 p2) r k := by
  intro r
  induction r with
  | zero => intro k; rfl
  | succ r ih =>
    intro k
    simp only [f_X9_preyOf_L2, firstP, preyC]
    rw [if_pos h0, ih]
    by_cases c1 : home k = nI p2
    · by_cases c2 : f_X9_isThere now k = true
      · by_cases c3 : f_X9_of now k 0 = 0
        · by_cases c4 : f_X9_of now k 1 = 0
          · by_cases c5 : f_X9_has (kin p1) (nI k) = true
            · simp [c1, c2, c3, c4, c5]
            · simp [c1, c2, c3, c4, c5]
          · simp [c1, c2, c3, c4]
        · simp [c1, c2, c3]
      · simp [c1, c2]
    · simp [c1]
theorem prey_sheep (now home kin : Nat → Int32) (p1 p2 : Nat) (h0 : ¬ now (1 + p2) = 0) (r k : Nat) : f_X9_preyOf_L2 now home kin p1 p2 r k = -9 := by
  cases r with
  | zero => rfl
  | succ r => simp only [f_X9_preyOf_L2]; rw [if_neg h0]
def victimC (n : TN) (v : TVi) (p h k : Nat) : Bool := hb ((((f_X2_there n v &&& f_X7_dwellers v (nI h)) &&& (gN_wolves n ^^^ (-1))) &&& (gN_bitten n ^^^ (-1))) &&& (f_X8_cell (gVi_kin v) (nI p) ^^^ (-1))) k
theorem victimC_iff {n v} (hP : gVi_people v ≤ 6) {p h k : Nat} : victimC n v p h k = true ↔ (k < gVi_people v ∧ hb (gN_gone n) k = false ∧ f_X8_cell (gVi_homes v) (nI k) = nI h ∧ hb (gN_wolves n) k = false ∧ hb (gN_bitten n) k = false ∧ hb (f_X8_cell (gVi_kin v) (nI p)) k = false) := by
  unfold victimC
  rw [hb_and, hb_and, hb_and, hb_and, hb_not, hb_not, hb_not]
  simp only [Bool.and_eq_true, decide_eq_true_eq, Bool.not_eq_true', there_hb n v hP, dw_hb v hP]
  constructor
  · rintro ⟨⟨⟨⟨⟨h1, h2⟩, _, h3⟩, _, h4⟩, _, h5⟩, _, h6⟩; exact ⟨h1, h2, h3, h4, h5, h6⟩
  · rintro ⟨h1, h2, h3, h4, h5, h6⟩; exact ⟨⟨⟨⟨⟨h1, h2⟩, h1, h3⟩, by omega, h4⟩, by omega, h5⟩, by omega, h6⟩
theorem cn0 {r : Int64} {i : Nat} : f_X8_cell r (nI i) = 0 ↔ cn r i = 0 := by
  have := cn_lt r i
  rw [cell_cn, show (0 : Int32) = nI 0 from rfl, nI_eq_ (by omega) (by omega)]
theorem cnle {r : Int64} {i : Nat} : f_X8_cell r (nI i) ≤ 0 ↔ cn r i = 0 := by
  have := cn_lt r i
  rw [cell_cn, show (0 : Int32) = nI 0 from rfl, nI_le_ (by omega) (by omega)]
  omega
theorem victim_first (n : TN) (v : TVi) (p h : Nat) : f_X2_victim n v (nI p) (nI h) = if cn (gN_sheep n) h = 0 then firstP (victimC n v p h) 8 0 else -9 := by
  unfold f_X2_victim f_X8_bitNumbered
  rw [bn_first _ 8 0 (by omega)]
  by_cases c : cn (gN_sheep n) h = 0
  · rw [if_pos (cnle.mpr c), if_pos c]; rfl
  · rw [if_neg (fun z => c (cnle.mp z)), if_neg c]
theorem victim_eq {n a v path home kin} (R : NR (gVi_people v) n a) (W : VR v path home kin) {p h : Nat} (hp : p < 6) (hh : h < 4) : f_X9_preyOf (gVi_people v) a home kin p h = f_X2_victim n v (nI p) (nI h) := by
  have hP := W.hP
  unfold f_X9_preyOf
  rw [victim_first]
  have hs := R.sheep hh
  by_cases c : cn (gN_sheep n) h = 0
  · rw [if_pos c, prey_first _ _ _ _ _ (hs.trans (cn0.mpr c))]
    have e : 8 = gVi_people v + (8 - gVi_people v) := by omega
    rw [e]
    refine firstP_ext _ _ _ (fun i _ hi => ?_) (fun i hi _ => ?_)
    · rw [Bool.eq_iff_iff, victimC_iff hP]
      unfold preyC
      rw [R.isThere (by omega), R.wolf (by omega), R.bitt (by omega), W.hhome (by omega), W.hkin hp, has9_hb (by omega)]
      simp only [Bool.and_eq_true, decide_eq_true_eq, Bool.not_eq_true', bI_eq0]
      constructor
      · rintro ⟨⟨⟨⟨h1, h2⟩, h3⟩, h4⟩, h5⟩; exact ⟨by omega, h2, h1, h3, h4, h5⟩
      · rintro ⟨_, h2, h1, h3, h4, h5⟩; exact ⟨⟨⟨⟨h1, h2⟩, h3⟩, h4⟩, h5⟩
    · rw [Bool.eq_false_iff]
      intro z
      have := ((victimC_iff hP).mp z).1
      omega
  · rw [if_neg c, prey_sheep _ _ _ _ _ (fun z => c (cn0.mp (hs.symm.trans z)))]
