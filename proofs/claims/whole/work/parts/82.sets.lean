/-! what follows from the tales -/
def cntR (c : Nat → Bool) : Nat → Nat → Nat
  | 0, _ => 0
  | r + 1, k => b1 (c k) + cntR c r (k + 1)
theorem cntR_le (c : Nat → Bool) : ∀ r k, cntR c r k ≤ r := by
  intro r
  induction r with
  | zero => intro k; exact Nat.le_refl _
  | succ r ih => intro k; simp only [cntR]; have := ih (k + 1); unfold b1; split <;> omega
theorem cntR_sub {c d : Nat → Bool} (h : ∀ k, c k = true → d k = true) : ∀ r k, cntR c r k ≤ cntR d r k ∧ (cntR c r k = cntR d r k ↔ ∀ i, k ≤ i → i < k + r → d i = true → c i = true) := by
  intro r
  induction r with
  | zero => intro k; exact ⟨Nat.le_refl _, fun _ i h1 h2 => by omega, fun _ => rfl⟩
  | succ r ih =>
    intro k
    simp only [cntR]
    obtain ⟨h1, h2⟩ := ih (k + 1)
    have hk := h k
    have hb : b1 (c k) ≤ b1 (d k) := by
      unfold b1
      cases e : c k with
      | false => simp
      | true => rw [hk e]; exact Nat.le_refl _
    refine ⟨by omega, ?_, ?_⟩
    · intro e i h3 h4 hd
      by_cases ei : i = k
      · subst ei
        cases e2 : c i with
        | true => rfl
        | false => rw [e2, hd] at e; unfold b1 at e; simp at e; omega
      · exact h2.mp (by omega) i (by omega) (by omega) hd
    · intro z
      have e1 := h2.mpr (fun i h3 h4 => z i (by omega) (by omega))
      have e2 : b1 (c k) = b1 (d k) := by
        cases e : d k with
        | true => rw [z k (by omega) (by omega) e]
        | false =>
          have : c k = false := Bool.eq_false_iff.mpr fun y => by rw [hk y] at e; cases e
          rw [this]
      omega
theorem cntR_pos {c : Nat → Bool} : ∀ r k, 0 < cntR c r k ↔ ∃ i, k ≤ i ∧ i < k + r ∧ c i = true := by
  intro r
  induction r with
  | zero => intro k; exact ⟨fun h => by simp [cntR] at h, fun ⟨i, h1, h2, _⟩ => by omega⟩
  | succ r ih =>
    intro k
    simp only [cntR]
    constructor
    · intro h
      cases e : c k with
      | true => exact ⟨k, by omega, by omega, e⟩
      | false =>
        rw [e] at h
        obtain ⟨i, h1, h2, h3⟩ := (ih (k + 1)).mp (by simpa [b1] using h)
        exact ⟨i, by omega, by omega, h3⟩
    · rintro ⟨i, h1, h2, h3⟩
      by_cases e : i = k
      · subst e; rw [h3]; simp [b1]; omega
      · have := (ih (k + 1)).mpr ⟨i, by omega, by omega, h3⟩
        omega
section SETS
variable {F G : Nat → Int64} {x : Nat → Nat}
def psC (x : Nat → Nat) (k : Nat) : Bool := decide (0 < x k)
def pwC (x : Nat → Nat) (p k : Nat) : Bool := decide (0 < x k) && hb (nI k) p
theorem pos_iff {y : Nat} (h : y ≤ 68719476736) : (0 : Int64) < lN y ↔ 0 < y := pk_lLT (a := 0) (by omega) (by omega)
theorem setCount_cnt (hF : ∀ i, i < 64 → x i ≤ 68719476736 ∧ F i = lN (x i)) : f_X5_setCount F = nI (cntR (psC x) 64 0) := by
  have e : ∀ (r k s : Nat), k + r ≤ 64 → f_X5_setCount_L4 F r k (nI s) = nI (s + cntR (psC x) r k) := by
    intro r
    induction r with
    | zero => intro k s _; rfl
    | succ r ih =>
      intro k s hk
      obtain ⟨h1, h2⟩ := hF k (by omega)
      simp only [f_X5_setCount_L4, cntR]
      have e1 : (nI s + bI (if 0 < F k then true else false) : Int32) = nI (s + b1 (psC x k)) := by
        rw [h2]
        unfold psC b1
        by_cases c : 0 < x k
        · rw [if_pos ((pos_iff h1).mpr c)]; simp only [c, decide_true, if_true]; exact nI_add1 s
        · rw [if_neg (fun z => c ((pos_iff h1).mp z))]; simp only [c, decide_false, Bool.false_eq_true, if_false]; exact Int32.add_zero _
      rw [e1, ih _ _ (by omega), Nat.add_assoc]
  have := e 64 0 0 (by omega)
  rw [Nat.zero_add] at this
  exact this
theorem setsWith_cnt (hF : ∀ i, i < 64 → x i ≤ 68719476736 ∧ F i = lN (x i)) {p : Nat} (hp : p < 32) : f_X5_setsWith F (nI p) = nI (cntR (pwC x p) 64 0) := by
  have e : ∀ (r k s : Nat), k + r ≤ 64 → f_X5_setsWith_L4 F (nI p) r k (nI s) = nI (s + cntR (pwC x p) r k) := by
    intro r
    induction r with
    | zero => intro k s _; rfl
    | succ r ih =>
      intro k s hk
      obtain ⟨h1, h2⟩ := hF k (by omega)
      simp only [f_X5_setsWith_L4, cntR]
      have e1 : (nI s + bI (if f_X8_has (nI k) (nI p) = true then (if 0 < F k then true else false) else false) : Int32) = nI (s + b1 (pwC x p k)) := by
        rw [h2, has_hb hp]
        unfold pwC b1
        by_cases c : 0 < x k
        · rw [if_pos ((pos_iff h1).mpr c)]
          cases hb (nI k) p
          · simp only [Bool.and_false, Bool.false_eq_true, if_false]; exact Int32.add_zero _
          · simp only [c, decide_true, Bool.and_true, if_true]; exact nI_add1 s
        · rw [if_neg (fun z => c ((pos_iff h1).mp z))]; simp only [c, decide_false, Bool.false_and, Bool.false_eq_true, if_false, ite_self]; exact Int32.add_zero _
      rw [e1, ih _ _ (by omega), Nat.add_assoc]
  have := e 64 0 0 (by omega)
  rw [Nat.zero_add] at this
  exact this
theorem setsWith9_eq (hFG : ∀ i, i < 64 → F i = G i) {p : Nat} (hp : p < 32) : f_X9_setsWith G (nI p) = f_X5_setsWith F (nI p) := by
  have e : ∀ (r k : Nat) (s : Int32), k + r ≤ 64 → f_X9_setsWith_L4 G (nI p) r k s = f_X5_setsWith_L4 F (nI p) r k s := by
    intro r
    induction r with
    | zero => intro k s _; rfl
    | succ r ih =>
      intro k s hk
      simp only [f_X9_setsWith_L4, f_X5_setsWith_L4]
      rw [ih _ _ (by omega), hFG k (by omega), if_neg (nI9 (by omega)), has9_hb hp, has_hb hp]
      cases hb (nI k) p <;> simp
  exact e 64 0 0 (by omega)
theorem setsAll_eq (hFG : ∀ i, i < 64 → F i = G i) : f_X9_setsWith G (-9) = f_X5_setCount F := by
  have e : ∀ (r k : Nat) (s : Int32), k + r ≤ 64 → f_X9_setsWith_L4 G (-9) r k s = f_X5_setCount_L4 F r k s := by
    intro r
    induction r with
    | zero => intro k s _; rfl
    | succ r ih =>
      intro k s hk
      simp only [f_X9_setsWith_L4, f_X5_setCount_L4, if_true]
      rw [ih _ _ (by omega), hFG k (by omega)]
  exact e 64 0 0 (by omega)
theorem inSome_hb (hF : ∀ i, i < 64 → x i ≤ 68719476736 ∧ F i = lN (x i)) (i : Nat) : hb (f_X5_inSome F) i = true ↔ ∃ k, k < 64 ∧ pwC x i k = true := by
  have e : ∀ (r k : Nat) (s : Int32), k + r ≤ 64 → (hb (f_X5_inSome_L4 F r k s) i = true ↔ hb s i = true ∨ ∃ j, k ≤ j ∧ j < k + r ∧ pwC x i j = true) := by
    intro r
    induction r with
    | zero => intro k s _; exact ⟨Or.inl, fun h => h.elim id fun ⟨j, h1, h2, _⟩ => by omega⟩
    | succ r ih =>
      intro k s hk
      obtain ⟨h1, h2⟩ := hF k (by omega)
      simp only [f_X5_inSome_L4]
      rw [ih _ _ (by omega), hb_or, Bool.or_eq_true, h2]
      have e1 : hb (nI (if 0 < lN (x k) then k else 0)) i = true ↔ pwC x i k = true := by
        unfold pwC
        by_cases c : 0 < x k
        · rw [if_pos ((pos_iff h1).mpr c)]; simp [c]
        · rw [if_neg (fun z => c ((pos_iff h1).mp z))]; simp [c]; exact hb_zero i
      rw [e1]
      constructor
      · rintro ((h | h) | ⟨j, h3, h4, h5⟩)
        · exact Or.inl h
        · exact Or.inr ⟨k, by omega, by omega, h⟩
        · exact Or.inr ⟨j, by omega, by omega, h5⟩
      · rintro (h | ⟨j, h3, h4, h5⟩)
        · exact Or.inl (Or.inl h)
        · by_cases e : j = k
          · subst e; exact Or.inl (Or.inr h5)
          · exact Or.inr ⟨j, by omega, by omega, h5⟩
  have := e 64 0 0 (by omega)
  rw [hb_zero] at this
  exact this.trans ⟨fun h => h.elim (fun z => by cases z) fun ⟨j, _, h2, h3⟩ => ⟨j, by omega, h3⟩, fun ⟨j, h2, h3⟩ => Or.inr ⟨j, by omega, by omega, h3⟩⟩
theorem sub_bit {k p : Nat} {t : Int32} (h : (nI k &&& (t ^^^ (-1))) = 0) (hp : p < 32) (hk : hb (nI k) p = true) : hb t p = true := by
  have := congrArg (fun z => hb z p) h
  rw [hb_and, hb_not, hb_zero, hk, decide_eq_true hp] at this
  cases e : hb t p with
  | true => rfl
  | false => rw [e] at this; cases this
theorem sus_acc (T : Nat → Int64) : ∀ (r k : Nat) (s : Int32), f_X9_suspects_L4 T r k s = accP (fun i => !decide (f_X9_setsWith T (nI i) ≤ 0)) r k s := by
  intro r
  induction r with
  | zero => intro k s; rfl
  | succ r ih =>
    intro k s
    simp only [f_X9_suspects_L4, accP]
    rw [ih]
    congr 1
    by_cases c : f_X9_setsWith T (nI k) ≤ 0
    · rw [if_pos c, Int32.or_zero]; simp only [c, decide_true, Bool.not_true]; rfl
    · rw [if_neg c]; simp only [c, decide_false, Bool.not_false, if_true]; rfl
theorem suspects_eq (hF : ∀ i, i < 64 → x i ≤ 68719476736 ∧ F i = lN (x i)) (hFG : ∀ i, i < 64 → F i = G i) {P : Nat} (hP : P ≤ 6) (hsub : ∀ i, i < 64 → 0 < x i → ∀ p, p < 32 → hb (nI i) p = true → p < P) : f_X9_suspects P G = f_X5_inSome F := by
  refine hb_iff fun i hi => ?_
  unfold f_X9_suspects
  rw [sus_acc, accP_0 (by omega), inSome_hb hF, setsWith9_eq hFG hi, setsWith_cnt hF hi]
  have hle := cntR_le (pwC x i) 64 0
  have e : (!decide (nI (cntR (pwC x i) 64 0) ≤ 0)) = true ↔ ∃ k, k < 64 ∧ pwC x i k = true := by
    rw [Bool.not_eq_true', decide_eq_false_iff_not, show (0 : Int32) = nI 0 from rfl, nI_le_ (by omega) (by omega)]
    have := cntR_pos (c := pwC x i) 64 0
    constructor
    · intro h
      obtain ⟨j, h1, h2, h3⟩ := this.mp (by omega)
      exact ⟨j, by omega, h3⟩
    · rintro ⟨j, h1, h2⟩
      have := this.mpr ⟨j, by omega, by omega, h2⟩
      omega
  rw [e]
  constructor
  · exact fun h => h.2
  · rintro ⟨k, h1, h2⟩
    have h3 := h2
    unfold pwC at h3
    rw [Bool.and_eq_true, decide_eq_true_eq] at h3
    exact ⟨hsub k h1 h3.1 i hi h3.2, k, h1, h2⟩
theorem all_eq (hFG : ∀ i, i < 64 → F i = G i) (T : Nat → Nat → Int64 → Int64) (hT0 : ∀ k l, T 0 k l = l) (hT : ∀ r k l, T (r + 1) k l = T r (k + 1) (l + G k)) : f_X5_all F = T 64 0 0 := by
  have e : ∀ (r k : Nat) (s : Int64), k + r ≤ 64 → f_X5_all_L4 F r k s = T r k s := by
    intro r
    induction r with
    | zero => intro k s _; rw [hT0]; rfl
    | succ r ih => intro k s h; simp only [f_X5_all_L4]; rw [ih _ _ (by omega), hT, hFG k (by omega)]
  exact e 64 0 0 (by omega)
end SETS
/-! Euclid -/
theorem eucl : ∀ (k r a b : Nat), a < 2 ^ 63 → b < 2 ^ k → b < 2 ^ 63 → 2 * k ≤ r → f_X9_part_L6 r (lN a) (lN b) = (lN (Nat.gcd a b), 0) ∧ (∀ q, f_X8_partOf_L9 r q (lN a) (lN b) = (lN (Nat.gcd a b), 0)) ∧ f_X9_part_L6_E r (lN a) (lN b) = true := by
  have stop : ∀ (r a : Nat), f_X9_part_L6 r (lN a) 0 = (lN a, 0) ∧ (∀ q, f_X8_partOf_L9 r q (lN a) 0 = (lN a, 0)) ∧ f_X9_part_L6_E r (lN a) 0 = true := by
    intro r a
    cases r <;> simp [f_X9_part_L6, f_X8_partOf_L9, f_X9_part_L6_E]
  have hz : ∀ b : Nat, b < 2 ^ 63 → ¬ b = 0 → ¬ lN b = 0 := fun b hb h0 e => h0 ((pk_lEQ (b := 0) hb (by omega)).mp e)
  intro k
  induction k with
  | zero =>
    intro r a b ha hb hb63 _
    obtain rfl : b = 0 := by simp at hb; omega
    rw [Nat.gcd_zero_right]
    exact stop r a
  | succ k ih =>
    intro r a b ha hb hb63 hr
    by_cases c : b = 0
    · subst c; rw [Nat.gcd_zero_right]; exact stop r a
    · obtain ⟨r, rfl⟩ : ∃ z, r = z + 1 + 1 := ⟨r - 2, by omega⟩
      have hm := Nat.mod_lt a (Nat.pos_of_ne_zero c)
      have e1 := pk_lRem ha (Nat.pos_of_ne_zero c) hb63
      have g1 : Nat.gcd a b = Nat.gcd b (a % b) := by rw [Nat.gcd_comm a b, Nat.gcd_rec, Nat.gcd_comm]
      simp only [f_X9_part_L6, f_X8_partOf_L9, f_X9_part_L6_E, if_neg (hz b hb63 c), e1]
      by_cases c2 : a % b = 0
      · rw [g1, c2, Nat.gcd_zero_right]
        simp only [show lN 0 = 0 from rfl, if_true]
        exact ⟨trivial, fun _ => trivial, trivial⟩
      · have e2 := pk_lRem (a := b) (b := a % b) hb63 (Nat.pos_of_ne_zero c2) (by omega)
        have g2 : Nat.gcd b (a % b) = Nat.gcd (a % b) (b % (a % b)) := by rw [Nat.gcd_comm b, Nat.gcd_rec, Nat.gcd_comm]
        simp only [if_neg (hz (a % b) (by omega) c2), e2]
        rw [g1, g2]
        have h3 := Nat.mod_lt b (Nat.pos_of_ne_zero c2)
        have h4 : 2 * (b % (a % b)) < b := by
          have h5 := Nat.div_add_mod b (a % b)
          have h6 : 1 ≤ b / (a % b) := Nat.div_pos (by omega) (by omega)
          have h7 : (a % b) * 1 ≤ (a % b) * (b / (a % b)) := Nat.mul_le_mul_left _ h6
          omega
        have := ih r (a % b) (b % (a % b)) (by omega) (by rw [Nat.pow_succ] at hb; omega) (by omega) (by omega)
        exact ⟨this.1, fun q => this.2.1 (q + 1 + 1), this.2.2⟩
/-- a part of a whole, the parts alike -/
theorem part_eq {a b : Nat} (h0 : 0 < b) (hab : a ≤ b) (hb : b < 2 ^ 50) (u : Bool) : f_X8_partOf (lN a) (lN b) u = f_X9_part (lN a) (lN b) u ∧ f_X9_part_L6_E fuelG (lN a) (lN b) = true ∧ ¬ (f_X9_part_L6 fuelG (lN a) (lN b)).1 = 0 := by
  obtain ⟨h1, _, h3⟩ := eucl 50 fuelG a b (by omega) hb (by omega) (by decide)
  obtain ⟨_, h2, _⟩ := eucl 50 100 b a (by omega) (by omega) (by omega) (by omega)
  have hg : 0 < Nat.gcd a b := Nat.gcd_pos_of_pos_right _ h0
  have hgb : Nat.gcd a b ≤ b := Nat.gcd_le_right _ h0
  have hne : ¬ lN (Nat.gcd a b) = 0 := fun e => by have := (pk_lEQ (a := Nat.gcd a b) (b := 0) (by omega) (by omega)).mp e; omega
  unfold f_X8_partOf f_X9_part
  rw [h1, h2, Nat.gcd_comm b a, h3, if_neg hne]
  exact ⟨rfl, rfl, hne⟩
