/-! how many spoons at worst -/
def dg (K p : Nat) : Nat := K / 3 ^ p % 3
theorem dg_upd : ∀ K, K < 729 → ∀ p, p < 6 → K / 3 ^ p % 3 = 0 → ∀ b, b < 3 → K + b * 3 ^ p < 729 ∧ ∀ q, q < 6 → (K + b * 3 ^ p) / 3 ^ q % 3 = if q = p then b else K / 3 ^ q % 3 := by decide +kernel
theorem dg_co : ∀ K, K < 729 → ∀ p, p < 6 → (728 - K) / 3 ^ p % 3 = 2 - K / 3 ^ p % 3 := by decide +kernel
def csB (k : Nat) : Nat → Nat → Nat → Bool
  | 0, _, _ => true
  | r + 1, p, l => (decide (l % 3 = 0) || (decide (l % 3 = 1) == hb (nI k) p)) && csB k r (p + 1) (l / 3)
theorem csB_iff (k : Nat) : ∀ r p l, csB k r p l = true ↔ ∀ i, i < r → l / 3 ^ i % 3 = 0 ∨ (l / 3 ^ i % 3 = 1 ↔ hb (nI k) (p + i) = true) := by
  intro r
  induction r with
  | zero => intro p l; exact ⟨fun _ i hi => by omega, fun _ => rfl⟩
  | succ r ih =>
    intro p l
    simp only [csB]
    rw [Bool.and_eq_true, ih, Bool.or_eq_true, decide_eq_true_eq]
    have e0 : (decide (l % 3 = 1) == hb (nI k) p) = true ↔ (l % 3 = 1 ↔ hb (nI k) p = true) := by
      by_cases c : l % 3 = 1 <;> cases hb (nI k) p <;> simp [c]
    rw [e0]
    have es : ∀ i, l / 3 / 3 ^ i = l / 3 ^ (i + 1) := fun i => by rw [Nat.div_div_eq_div_mul, Nat.pow_succ, Nat.mul_comm]
    constructor
    · rintro ⟨h1, h2⟩ i hi
      cases i with
      | zero => rw [Nat.pow_zero, Nat.div_one]; exact h1
      | succ i =>
        have := h2 i (by omega)
        rw [es, show p + 1 + i = p + (i + 1) by omega] at this
        exact this
    · intro h
      refine ⟨?_, fun i hi => ?_⟩
      · have := h 0 (by omega); rw [Nat.pow_zero, Nat.div_one] at this; exact this
      · rw [es, show p + 1 + i = p + (i + 1) by omega]; exact h (i + 1) (by omega)
def consB (K k : Nat) : Bool := csB k 6 0 K
theorem cons_iff {K k : Nat} : consB K k = true ↔ ∀ p, p < 6 → dg K p = 0 ∨ (dg K p = 1 ↔ hb (nI k) p = true) := by
  unfold consB dg
  rw [csB_iff]
  constructor
  · intro h p hp; have := h p hp; rw [Nat.zero_add] at this; exact this
  · intro h p hp; rw [Nat.zero_add]; exact h p hp
section CUBES
variable {x : Nat → Nat} {th : Nat → Bool}
def nK (x : Nat → Nat) (K : Nat) : Nat := cntR (fun k => psC x k && consB K k) 64 0
theorem cntR_split (c b : Nat → Bool) : ∀ r k, cntR c r k = cntR (fun i => c i && b i) r k + cntR (fun i => c i && !b i) r k := by
  intro r
  induction r with
  | zero => intro k; rfl
  | succ r ih => intro k; simp only [cntR]; rw [ih]; unfold b1; cases c k <;> cases b k <;> simp <;> omega
theorem cntR_congr {c d : Nat → Bool} : ∀ r k, (∀ i, k ≤ i → i < k + r → c i = d i) → cntR c r k = cntR d r k := by
  intro r
  induction r with
  | zero => intro k _; rfl
  | succ r ih => intro k h; simp only [cntR]; rw [h k (by omega) (by omega), ih (k + 1) fun i a b => h i (by omega) (by omega)]
theorem cntR_two {c : Nat → Bool} : ∀ r k, 2 ≤ cntR c r k → ∃ i j, i < j ∧ j < k + r ∧ c i = true ∧ c j = true := by
  intro r
  induction r with
  | zero => intro k h; simp [cntR] at h
  | succ r ih =>
    intro k h
    simp only [cntR] at h
    cases e : c k with
    | true =>
      rw [e] at h
      have h1 : 0 < cntR c r (k + 1) := by simp [b1] at h; omega
      obtain ⟨j, h2, h3, h4⟩ := (cntR_pos r (k + 1)).mp h1
      exact ⟨k, j, by omega, by omega, e, h4⟩
    | false =>
      rw [e] at h
      obtain ⟨i, j, h2, h3, h4, h5⟩ := ih (k + 1) (by simpa [b1] using h)
      exact ⟨i, j, h2, by omega, h4, h5⟩
theorem cons_one {K k p : Nat} (hK : K < 729) (hp : p < 6) (h0 : dg K p = 0) : consB (K + 3 ^ p) k = (consB K k && hb (nI k) p) ∧ consB (K + 2 * 3 ^ p) k = (consB K k && !hb (nI k) p) := by
  have u1 := (dg_upd K hK p hp h0 1 (by omega)).2
  have u2 := (dg_upd K hK p hp h0 2 (by omega)).2
  rw [Nat.one_mul] at u1
  constructor
  · rw [Bool.eq_iff_iff, Bool.and_eq_true, cons_iff, cons_iff]
    constructor
    · intro h
      refine ⟨fun q hq => ?_, ?_⟩
      · by_cases e : q = p
        · subst e; exact Or.inl h0
        · have := h q hq; unfold dg at this; rw [u1 q hq, if_neg e] at this; exact this
      · have := h p hp; unfold dg at this; rw [u1 p hp, if_pos rfl] at this
        rcases this with z | z
        · omega
        · exact z.mp rfl
    · rintro ⟨h1, h2⟩ q hq
      unfold dg
      rw [u1 q hq]
      by_cases e : q = p
      · subst e; rw [if_pos rfl]; exact Or.inr ⟨fun _ => h2, fun _ => rfl⟩
      · rw [if_neg e]; exact h1 q hq
  · rw [Bool.eq_iff_iff, Bool.and_eq_true, cons_iff, cons_iff, Bool.not_eq_true']
    constructor
    · intro h
      refine ⟨fun q hq => ?_, ?_⟩
      · by_cases e : q = p
        · subst e; exact Or.inl h0
        · have := h q hq; unfold dg at this; rw [u2 q hq, if_neg e] at this; exact this
      · have := h p hp; unfold dg at this; rw [u2 p hp, if_pos rfl] at this
        rcases this with z | z
        · omega
        · exact Bool.eq_false_iff.mpr fun y => by have := z.mpr y; omega
    · rintro ⟨h1, h2⟩ q hq
      unfold dg
      rw [u2 q hq]
      by_cases e : q = p
      · subst e; rw [if_pos rfl]; exact Or.inr ⟨fun z => by omega, fun z => by rw [h2] at z; cases z⟩
      · rw [if_neg e]; exact h1 q hq
theorem nK_split {K p : Nat} (hK : K < 729) (hp : p < 6) (h0 : dg K p = 0) : nK x K = nK x (K + 3 ^ p) + nK x (K + 2 * 3 ^ p) := by
  have e0 := cntR_split (fun k => psC x k && consB K k) (fun k => hb (nI k) p) 64 0
  have e1 : cntR (fun i => (psC x i && consB K i) && hb (nI i) p) 64 0 = nK x (K + 3 ^ p) := cntR_congr 64 0 fun i _ _ => by
    rw [(cons_one (k := i) hK hp h0).1, Bool.and_assoc]
  have e2 : cntR (fun i => (psC x i && consB K i) && !hb (nI i) p) 64 0 = nK x (K + 2 * 3 ^ p) := cntR_congr 64 0 fun i _ _ => by
    rw [(cons_one (k := i) hK hp h0).2, Bool.and_assoc]
  rw [← e1, ← e2]
  exact e0
def mnL (opt : Nat → Bool) (val : Nat → Nat) : Nat → Nat → Nat → Nat
  | 0, _, acc => acc
  | r + 1, p, acc => mnL opt val r (p + 1) (if opt p = true then (if acc ≤ val p then acc else val p) else acc)
theorem mnL_spec (opt : Nat → Bool) (val : Nat → Nat) : ∀ r p acc, mnL opt val r p acc ≤ acc ∧ (∀ q, p ≤ q → q < p + r → opt q = true → mnL opt val r p acc ≤ val q) ∧ (mnL opt val r p acc = acc ∨ ∃ q, p ≤ q ∧ q < p + r ∧ opt q = true ∧ mnL opt val r p acc = val q) := by
  intro r
  induction r with
  | zero => intro p acc; exact ⟨Nat.le_refl _, fun q h1 h2 => by omega, Or.inl rfl⟩
  | succ r ih =>
    intro p acc
    simp only [mnL]
    obtain ⟨h1, h2, h3⟩ := ih (p + 1) (if opt p = true then (if acc ≤ val p then acc else val p) else acc)
    generalize hz : mnL opt val r (p + 1) (if opt p = true then (if acc ≤ val p then acc else val p) else acc) = z at h1 h2 h3
    by_cases c : opt p = true
    · rw [if_pos c] at h1 h3
      by_cases c2 : acc ≤ val p
      · rw [if_pos c2] at h1 h3
        refine ⟨h1, fun q h4 h5 h6 => ?_, ?_⟩
        · by_cases e : q = p
          · subst e; omega
          · exact h2 q (by omega) (by omega) h6
        · rcases h3 with h3 | ⟨q, h4, h5, h6, h7⟩
          · exact Or.inl h3
          · exact Or.inr ⟨q, by omega, by omega, h6, h7⟩
      · rw [if_neg c2] at h1 h3
        refine ⟨by omega, fun q h4 h5 h6 => ?_, ?_⟩
        · by_cases e : q = p
          · subst e; exact h1
          · exact h2 q (by omega) (by omega) h6
        · rcases h3 with h3 | ⟨q, h4, h5, h6, h7⟩
          · exact Or.inr ⟨p, by omega, by omega, c, h3⟩
          · exact Or.inr ⟨q, by omega, by omega, h6, h7⟩
    · rw [if_neg c] at h1 h3
      refine ⟨h1, fun q h4 h5 h6 => ?_, ?_⟩
      · by_cases e : q = p
        · subst e; exact absurd h6 c
        · exact h2 q (by omega) (by omega) h6
      · rcases h3 with h3 | ⟨q, h4, h5, h6, h7⟩
        · exact Or.inl h3
        · exact Or.inr ⟨q, by omega, by omega, h6, h7⟩
theorem mnL_congr {o1 o2 : Nat → Bool} {v1 v2 : Nat → Nat} : ∀ r p acc, (∀ q, p ≤ q → q < p + r → o1 q = o2 q ∧ (o1 q = true → v1 q = v2 q)) → mnL o1 v1 r p acc = mnL o2 v2 r p acc := by
  intro r
  induction r with
  | zero => intro p acc _; rfl
  | succ r ih =>
    intro p acc h
    simp only [mnL]
    obtain ⟨h1, h2⟩ := h p (by omega) (by omega)
    rw [ih _ _ (fun q a b => h q (by omega) (by omega)), ← h1]
    by_cases c : o1 p = true
    · rw [if_pos c, if_pos c, h2 c]
    · rw [if_neg c, if_neg c]
def wst (V : Nat → Nat) (K p : Nat) : Nat := 1 + (if V (K + 3 ^ p) ≤ V (K + 2 * 3 ^ p) then V (K + 2 * 3 ^ p) else V (K + 3 ^ p))
def Vf (x : Nat → Nat) (th : Nat → Bool) : Nat → Nat → Nat
  | 0, _ => 0
  | f + 1, K => if nK x K ≤ 1 then 0 else mnL (fun p => decide (dg K p = 0) && th p) (wst (Vf x th f) K) 6 0 99
theorem p3_pos (p : Nat) : 1 ≤ 3 ^ p := Nat.pos_of_ne_zero (by intro z; have := Nat.pow_eq_zero.mp z; omega)
theorem Vf_fuel : ∀ (m f g K : Nat), 729 - K ≤ m → K < 729 → 729 - K ≤ f → 729 - K ≤ g → Vf x th f K = Vf x th g K := by
  intro m
  induction m with
  | zero => intro f g K h1 h2; omega
  | succ m ih =>
    intro f g K h1 h2 h3 h4
    obtain ⟨f, rfl⟩ : ∃ z, f = z + 1 := ⟨f - 1, by omega⟩
    obtain ⟨g, rfl⟩ : ∃ z, g = z + 1 := ⟨g - 1, by omega⟩
    simp only [Vf]
    by_cases c : nK x K ≤ 1
    · rw [if_pos c, if_pos c]
    · rw [if_neg c, if_neg c]
      refine mnL_congr 6 0 99 fun q _ hq => ⟨rfl, fun ho => ?_⟩
      rw [Bool.and_eq_true, decide_eq_true_eq] at ho
      have u1 := (dg_upd K h2 q (by omega) ho.1 1 (by omega)).1
      have u2 := (dg_upd K h2 q (by omega) ho.1 2 (by omega)).1
      have := p3_pos q
      rw [Nat.one_mul] at u1
      unfold wst
      rw [ih f g (K + 3 ^ q) (by omega) u1 (by omega) (by omega), ih f g (K + 2 * 3 ^ q) (by omega) u2 (by omega) (by omega)]
def Vt (x : Nat → Nat) (th : Nat → Bool) (K : Nat) : Nat := Vf x th (729 - K) K
theorem Vt_eq {K : Nat} (hK : K < 729) : Vt x th K = if nK x K ≤ 1 then 0 else mnL (fun p => decide (dg K p = 0) && th p) (wst (Vt x th) K) 6 0 99 := by
  unfold Vt
  rw [show 729 - K = (729 - K - 1) + 1 by omega]
  simp only [Vf]
  by_cases c : nK x K ≤ 1
  · rw [if_pos c, if_pos c]
  · rw [if_neg c, if_neg c]
    refine mnL_congr 6 0 99 fun q _ hq => ⟨rfl, fun ho => ?_⟩
    rw [Bool.and_eq_true, decide_eq_true_eq] at ho
    have u1 := (dg_upd K hK q (by omega) ho.1 1 (by omega)).1
    have u2 := (dg_upd K hK q (by omega) ho.1 2 (by omega)).1
    have := p3_pos q
    rw [Nat.one_mul] at u1
    unfold wst
    rw [Vf_fuel 729 (729 - K - 1) (729 - (K + 3 ^ q)) (K + 3 ^ q) (by omega) u1 (by omega) (by omega), Vf_fuel 729 (729 - K - 1) (729 - (K + 2 * 3 ^ q)) (K + 2 * 3 ^ q) (by omega) u2 (by omega) (by omega)]
theorem opt_ex (hth : ∀ k, k < 64 → psC x k = true → ∀ p, p < 6 → hb (nI k) p = true → th p = true) {K : Nat} (h2 : 2 ≤ nK x K) : ∃ p, p < 6 ∧ dg K p = 0 ∧ th p = true := by
  obtain ⟨i, j, h3, h4, h5, h6⟩ := cntR_two 64 0 h2
  rw [Bool.and_eq_true, cons_iff] at h5 h6
  refine Classical.byContradiction fun hn => ?_
  have hb6 : ∀ i, i < 64 → ∀ j, j < 64 → (∀ p, p < 6 → hb (nI i) p = hb (nI j) p) → i = j := by decide +kernel
  have : i = j := hb6 i (by omega) j (by omega) fun p hp => by
    by_cases c : dg K p = 0
    · have ht : ¬ th p = true := fun z => hn ⟨p, hp, c, z⟩
      rw [Bool.eq_false_iff.mpr fun z => ht (hth i (by omega) h5.1 p hp z), Bool.eq_false_iff.mpr fun z => ht (hth j (by omega) h6.1 p hp z)]
    · have a1 := (h5.2 p hp).resolve_left c
      have a2 := (h6.2 p hp).resolve_left c
      exact Bool.eq_iff_iff.mpr (a1.symm.trans a2)
  omega
def uK (th : Nat → Bool) (K : Nat) : Nat := cntR (fun p => decide (dg K p = 0) && th p) 6 0
theorem uK_less {K p b : Nat} (hK : K < 729) (hp : p < 6) (h0 : dg K p = 0) (ht : th p = true) (hb1 : 1 ≤ b) (hb2 : b < 3) : uK th (K + b * 3 ^ p) < uK th K := by
  have hsub := cntR_sub (c := fun q => decide (dg (K + b * 3 ^ p) q = 0) && th q) (d := fun q => decide (dg K q = 0) && th q)
  unfold uK
  have e : ∀ q, q < 6 → (decide (dg (K + b * 3 ^ p) q = 0) && th q) = ((decide (dg K q = 0) && th q) && !decide (q = p)) := fun q hq => by
    unfold dg
    rw [(dg_upd K hK p hp h0 b hb2).2 q hq]
    by_cases c : q = p
    · rw [if_pos c]; simp [c]; omega
    · rw [if_neg c]; simp [c]
  rw [cntR_congr 6 0 (fun q _ hq => e q (by omega))]
  have hs := cntR_sub (c := fun q => (decide (dg K q = 0) && th q) && !decide (q = p)) (d := fun q => decide (dg K q = 0) && th q) (fun k hk => by rw [Bool.and_eq_true] at hk; exact hk.1) 6 0
  refine Nat.lt_of_le_of_ne hs.1 fun z => ?_
  have := hs.2.mp z p (by omega) (by omega) (by rw [h0, ht]; rfl)
  simp at this
theorem Vt_le (hth : ∀ k, k < 64 → psC x k = true → ∀ p, p < 6 → hb (nI k) p = true → th p = true) : ∀ (m K : Nat), 729 - K ≤ m → K < 729 → Vt x th K ≤ uK th K := by
  intro m
  induction m with
  | zero => intro K h1 h2; omega
  | succ m ih =>
    intro K h1 h2
    rw [Vt_eq h2]
    by_cases c : nK x K ≤ 1
    · rw [if_pos c]; exact Nat.zero_le _
    · rw [if_neg c]
      obtain ⟨p, hp, h0, ht⟩ := opt_ex hth (K := K) (by omega)
      have u1 := (dg_upd K h2 p hp h0 1 (by omega)).1
      have u2 := (dg_upd K h2 p hp h0 2 (by omega)).1
      have hp3 := p3_pos p
      rw [Nat.one_mul] at u1
      have a1 := ih (K + 3 ^ p) (by omega) u1
      have a2 := ih (K + 2 * 3 ^ p) (by omega) u2
      have b1_ := uK_less (th := th) h2 hp h0 ht (b := 1) (by omega) (by omega)
      have b2_ := uK_less (th := th) h2 hp h0 ht (b := 2) (by omega) (by omega)
      rw [Nat.one_mul] at b1_
      refine Nat.le_trans ((mnL_spec _ _ 6 0 99).2.1 p (by omega) (by omega) (by rw [h0, ht]; rfl)) ?_
      unfold wst
      split <;> omega
theorem uK_6 (K : Nat) : uK th K ≤ 6 := cntR_le _ _ _
theorem nK_zero (hth : ∀ k, k < 64 → psC x k = true → ∀ p, p < 6 → hb (nI k) p = true → th p = true) {K p : Nat} (hK : K < 729) (hp : p < 6) (h0 : dg K p = 0) (ht : th p = false) : nK x (K + 3 ^ p) = 0 := by
  refine Nat.eq_zero_of_not_pos fun z => ?_
  obtain ⟨i, h1, h2, h3⟩ := (cntR_pos 64 0).mp z
  rw [Bool.and_eq_true, (cons_one hK hp h0).1, Bool.and_eq_true] at h3
  have := hth i (by omega) h3.1 p hp h3.2.2
  rw [ht] at this
  cases this
theorem Vt_same (hth : ∀ k, k < 64 → psC x k = true → ∀ p, p < 6 → hb (nI k) p = true → th p = true) {p : Nat} (hp : p < 6) (ht : th p = false) : ∀ (m K : Nat), 729 - K ≤ m → K < 729 → dg K p = 0 → Vt x th (K + 2 * 3 ^ p) = Vt x th K := by
  intro m
  induction m with
  | zero => intro K h1 h2; omega
  | succ m ih =>
    intro K h1 h2 h0
    have u2 := dg_upd K h2 p hp h0 2 (by omega)
    have hN : nK x (K + 2 * 3 ^ p) = nK x K := by rw [nK_split h2 hp h0, nK_zero hth h2 hp h0 ht, Nat.zero_add]
    rw [Vt_eq h2, Vt_eq u2.1, hN]
    by_cases c : nK x K ≤ 1
    · rw [if_pos c, if_pos c]
    · rw [if_neg c, if_neg c]
      refine mnL_congr 6 0 99 fun q _ hq => ?_
      have eq : dg (K + 2 * 3 ^ p) q = if q = p then 2 else dg K q := u2.2 q (by omega)
      by_cases e : q = p
      · subst e; rw [ht, Bool.and_false, Bool.and_false]; exact ⟨rfl, fun z => by cases z⟩
      · rw [eq, if_neg e]
        refine ⟨rfl, fun ho => ?_⟩
        rw [Bool.and_eq_true, decide_eq_true_eq] at ho
        have v1 := dg_upd K h2 q (by omega) ho.1 1 (by omega)
        have v2 := dg_upd K h2 q (by omega) ho.1 2 (by omega)
        have := p3_pos q
        rw [Nat.one_mul] at v1
        unfold wst
        have z1 := ih (K + 3 ^ q) (by omega) v1.1 (by show (K + 3 ^ q) / 3 ^ p % 3 = 0; rw [v1.2 p hp, if_neg (fun y => e y.symm)]; exact h0)
        have z2 := ih (K + 2 * 3 ^ q) (by omega) v2.1 (by show (K + 2 * 3 ^ q) / 3 ^ p % 3 = 0; rw [v2.2 p hp, if_neg (fun y => e y.symm)]; exact h0)
        rw [show K + 2 * 3 ^ p + 3 ^ q = K + 3 ^ q + 2 * 3 ^ p by omega, show K + 2 * 3 ^ p + 2 * 3 ^ q = K + 2 * 3 ^ q + 2 * 3 ^ p by omega, z1, z2]
/-- whoever is asked: those who are not there cost a spoon for nothing -/
theorem Vt_any (hth : ∀ k, k < 64 → psC x k = true → ∀ p, p < 6 → hb (nI k) p = true → th p = true) {K : Nat} (hK : K < 729) (h2 : ¬ nK x K ≤ 1) : mnL (fun p => decide (dg K p = 0)) (wst (Vt x th) K) 6 0 6 = Vt x th K := by
  have e := Vt_eq (x := x) (th := th) hK
  rw [if_neg h2] at e
  have hle := Vt_le (x := x) hth 729 K (by omega) hK
  have hu := uK_6 (th := th) K
  have m1 := mnL_spec (fun p => decide (dg K p = 0) && th p) (wst (Vt x th) K) 6 0 99
  have m2 := mnL_spec (fun p => decide (dg K p = 0)) (wst (Vt x th) K) 6 0 6
  rw [← e] at m1
  have hge : ∀ q, q < 6 → dg K q = 0 → Vt x th K ≤ wst (Vt x th) K q := fun q hq h0 => by
    cases ht : th q with
    | true => exact m1.2.1 q (by omega) (by omega) (by rw [h0, ht]; rfl)
    | false =>
      have := Vt_same hth hq ht 729 K (by omega) hK h0
      unfold wst
      rw [this]
      split <;> omega
  refine Nat.le_antisymm ?_ ?_
  · rcases m1.2.2 with z | ⟨q, h3, h4, h5, h6⟩
    · omega
    · rw [Bool.and_eq_true] at h5
      rw [h6]
      exact m2.2.1 q (by omega) (by omega) h5.1
  · rcases m2.2.2 with z | ⟨q, h3, h4, h5, h6⟩
    · rw [z]; omega
    · rw [h6]; exact hge q (by omega) (decide_eq_true_eq.mp h5)
end CUBES
