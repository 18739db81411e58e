/-! shares: how likely one is bitten -/
def g4 (x : Int32) : Nat := b1 (hb x 0) + (b1 (hb x 1) + (b1 (hb x 2) + b1 (hb x 3)))
def wt (c : Nat) : Nat := if c = 0 then 6 else 6 / c
def dgt (c : Nat) : Nat := if c = 0 then 1 else c
def s4 (f : Nat → Nat) : Nat := f 0 + f 1 + f 2 + f 3
def pl (x : Int32) (j : Nat) : Nat := tn (f_X9_placeOf x (nI j))
def sumN : Nat → (Nat → Nat) → Nat
  | 0, _ => 0
  | m + 1, f => sumN m f + f m
def ls (X : Nat → Nat) : List Nat → Nat
  | [] => 0
  | a :: t => X a + ls X t
theorem ls_app (X : Nat → Nat) : ∀ a b, ls X (a ++ b) = ls X a + ls X b := by
  intro a b
  induction a with
  | nil => simp [ls]
  | cons x t ih => simp only [List.cons_append, ls, ih]; omega
theorem sumN_ls (X f : Nat → Nat) : ∀ c, sumN c (fun j => X (f j)) = ls X ((List.range c).map f) := by
  intro c
  induction c with
  | zero => rfl
  | succ c ih =>
    rw [List.range_succ, List.map_append, ls_app, ← ih]
    simp [sumN, ls]
theorem ls_f4 (X : Nat → Nat) (p : Nat → Bool) : ls X ((List.range 4).filter p) = s4 (fun h => if p h = true then X h else 0) := by
  have e : List.range 4 = [0, 1, 2, 3] := by decide
  rw [e]
  unfold s4
  cases h0 : p 0 <;> cases h1 : p 1 <;> cases h2 : p 2 <;> cases h3 : p 3 <;> simp [List.filter, h0, h1, h2, h3, ls] <;> omega
theorem pl16 : ∀ m, m < 16 → (List.range (g4 (nI m))).map (pl (nI m)) = (List.range 4).filter (hb (nI m)) := by decide +kernel
theorem g416 : ∀ m, m < 16 → f_X9_bits (nI m) = nI (g4 (nI m)) ∧ f_J6_bitCount_0f7a4 (nI m) = nI (g4 (nI m)) ∧ (∀ j, j < g4 (nI m) → hb (nI m) (pl (nI m) j) = true ∧ pl (nI m) j < 4 ) := by decide +kernel
theorem pl_sum {x : Int32} (h : ∀ i, 4 ≤ i → hb x i = false) (X : Nat → Nat) : sumN (g4 x) (fun j => X (pl x j)) = s4 (fun h => if hb x h = true then X h else 0) := by
  obtain ⟨m, hm, rfl⟩ := small16 h
  rw [sumN_ls, pl16 m hm, ls_f4]
theorem g4_le (x : Int32) : g4 x ≤ 4 := by
  unfold g4 b1
  (repeat' split) <;> omega
theorem sumN_congr {f g : Nat → Nat} : ∀ m, (∀ i, i < m → f i = g i) → sumN m f = sumN m g := by
  intro m
  induction m with
  | zero => intro _; rfl
  | succ m ih => intro h; simp only [sumN]; rw [ih fun i hi => h i (by omega), h m (by omega)]
theorem sumN_mul (c : Nat) (f : Nat → Nat) : ∀ m, sumN m (fun i => c * f i) = c * sumN m f := by
  intro m
  induction m with
  | zero => rfl
  | succ m ih => simp only [sumN]; rw [ih, Nat.mul_add]
theorem sumN_addf (f g : Nat → Nat) : ∀ m, sumN m (fun i => f i + g i) = sumN m f + sumN m g := by
  intro m
  induction m with
  | zero => rfl
  | succ m ih => simp only [sumN]; rw [ih]; omega
theorem sumN_add (f : Nat → Nat) (a : Nat) : ∀ b, sumN (a + b) f = sumN a f + sumN b (fun j => f (a + j)) := by
  intro b
  induction b with
  | zero => rfl
  | succ b ih => rw [← Nat.add_assoc]; simp only [sumN]; rw [ih]; omega
theorem sumN_zero (m : Nat) : sumN m (fun _ => 0) = 0 := by
  induction m with
  | zero => rfl
  | succ m ih => simp only [sumN, ih]
theorem sum_split {c : Nat} (hc : 0 < c) (G : Nat → Nat → Nat) : ∀ M, sumN (c * M) (fun i => G (i % c) (i / c)) = sumN c (fun d => sumN M (fun j => G d j)) := by
  intro M
  induction M with
  | zero => simp only [Nat.mul_zero, sumN]; exact (sumN_zero c).symm
  | succ M ih =>
    rw [Nat.mul_succ, sumN_add, ih]
    simp only [sumN]
    rw [sumN_addf]
    congr 1
    refine sumN_congr c fun d hd => ?_
    rw [Nat.mul_add_mod, Nat.mod_eq_of_lt hd, Nat.mul_add_div hc, Nat.div_eq_of_lt hd, Nat.add_zero]
def Sp (v : TVi) (F : TN → Nat) : Nat → Nat → TN → Nat
  | 0, _, n => F n
  | r + 1, k, n => if g4 (f_X2_goals n v (nI k)) = 0 then 6 * Sp v F r (k + 1) n else wt (g4 (f_X2_goals n v (nI k))) * s4 (fun h => if hb (f_X2_goals n v (nI k)) h = true then Sp v F r (k + 1) (f_X2_walk n v (nI k) (nI h)).2 else 0)
def Mx (v : TVi) : Nat → Nat → TN → Nat
  | 0, _, _ => 1
  | r + 1, k, n => dgt (g4 (f_X2_goals n v (nI k))) * Mx v r (k + 1) n
def stp (v : TVi) (k i : Nat) (n : TN) : TN := if g4 (f_X2_goals n v (nI k)) = 0 then n else (f_X2_walk n v (nI k) (nI (pl (f_X2_goals n v (nI k)) (i % g4 (f_X2_goals n v (nI k)))))).2
def nxi (v : TVi) (k i : Nat) (n : TN) : Nat := if g4 (f_X2_goals n v (nI k)) = 0 then i else i / g4 (f_X2_goals n v (nI k))
def Rn (v : TVi) : Nat → Nat → Nat → TN → TN
  | 0, _, _, n => n
  | r + 1, k, i, n => Rn v r (k + 1) (nxi v k i n) (stp v k i n)
def Rw (v : TVi) : Nat → Nat → Nat → TN → Nat
  | 0, _, _, _ => 1
  | r + 1, k, i, n => wt (g4 (f_X2_goals n v (nI k))) * Rw v r (k + 1) (nxi v k i n) (stp v k i n)
section SHR
variable {v : TVi} {path home kin : Nat → Int32}
theorem goals_4 (W : VR v path home kin) (n : TN) {p : Nat} (hp : p < 6) : ∀ i, 4 ≤ i → hb (f_X2_goals n v (nI p)) i = false := fun i hi => Bool.eq_false_iff.mpr fun z => by
  have := (goals_hb W.hH hp z).2.2.2.2
  have := W.hH
  omega
theorem goals_3 (W : VR v path home kin) (n : TN) {p : Nat} (hp : p < 6) : g4 (f_X2_goals n v (nI p)) ≤ 3 := by
  have hc := W.hcn hp
  have h0 : hb (f_X2_goals n v (nI p)) (cn (gVi_homes v) p) = false := Bool.eq_false_iff.mpr fun z => by
    have := (goals_hb W.hH hp z).2.2.2.1
    rw [W.hself hc] at this
    cases this
  generalize f_X2_goals n v (nI p) = x at *
  generalize cn (gVi_homes v) p = h at *
  unfold g4
  have b : ∀ i, b1 (hb x i) ≤ 1 := fun i => by unfold b1; split <;> omega
  have b0 := b 0
  have b1' := b 1
  have b2 := b 2
  have b3 := b 3
  have z : b1 (hb x h) = 0 := by rw [h0]; rfl
  rcases (show h = 0 ∨ h = 1 ∨ h = 2 ∨ h = 3 by omega) with rfl | rfl | rfl | rfl <;> omega
theorem wt_mul {c : Nat} (h0 : ¬ c = 0) (h3 : c ≤ 3) : wt c * c = 6 := by
  rcases (show c = 1 ∨ c = 2 ∨ c = 3 by omega) with rfl | rfl | rfl <;> rfl
theorem goals_walk (n : TN) (v : TVi) {p q : Nat} (h : Int32) (hp : p < 32) (hq : q < 32) (hpq : ¬ q = p) : f_X2_goals (f_X2_walk n v (nI p) h).2 v (nI q) = f_X2_goals n v (nI q) := by
  unfold f_X2_goals
  rw [has_hb hq, has_hb hq, wk_wolves, wk_gone, wk_out, hb_and, hb_and, hb_and, hb_and, hb_not, hb_not, hb_not, hb_set hp, decide_eq_false hpq, Bool.or_false]
  rfl
theorem Mx_walk (n : TN) (v : TVi) {p : Nat} (h : Int32) : ∀ r k, p < k → k + r ≤ 6 → Mx v r k (f_X2_walk n v (nI p) h).2 = Mx v r k n := by
  intro r
  induction r with
  | zero => intro k _ _; rfl
  | succ r ih =>
    intro k h1 h2
    simp only [Mx]
    rw [goals_walk n v h (show p < 32 by omega) (show k < 32 by omega) (show ¬ k = p by omega), ih (k + 1) (by omega) (by omega)]
theorem sum_Sp (W : VR v path home kin) (F : TN → Nat) : ∀ r k n, k + r ≤ 6 → sumN (Mx v r k n) (fun i => Rw v r k i n * F (Rn v r k i n)) = Sp v F r k n := by
  intro r
  induction r with
  | zero => intro k n _; simp [Mx, Rw, Rn, Sp, sumN]
  | succ r ih =>
    intro k n hk
    have g4' := goals_4 W n (p := k) (by omega)
    simp only [Mx, Rw, Rn, Sp, stp, nxi]
    by_cases c : g4 (f_X2_goals n v (nI k)) = 0
    · simp only [c, if_true, dgt, wt, Nat.one_mul, Nat.mul_assoc]
      rw [sumN_mul, ih (k + 1) n (by omega)]
    · simp only [if_neg c, dgt, Nat.mul_assoc]
      rw [sum_split (c := g4 (f_X2_goals n v (nI k))) (by omega) (fun d j => wt (g4 (f_X2_goals n v (nI k))) * (Rw v r (k + 1) j (f_X2_walk n v (nI k) (nI (pl (f_X2_goals n v (nI k)) d))).2 * F (Rn v r (k + 1) j (f_X2_walk n v (nI k) (nI (pl (f_X2_goals n v (nI k)) d))).2)))]
      rw [← pl_sum g4' (fun h => Sp v F r (k + 1) (f_X2_walk n v (nI k) (nI h)).2), ← sumN_mul]
      refine sumN_congr _ fun d _ => ?_
      rw [sumN_mul, ← ih (k + 1) _ (by omega), Mx_walk n v _ r (k + 1) (by omega) (by omega)]
theorem wb_walk (n : TN) (v : TVi) (hP : gVi_people v ≤ 6) (k h : Nat) {p : Nat} (hw : wb n p = true) : wb (f_X2_walk n v (nI k) (nI h)).2 p = true := by
  unfold wb at hw ⊢
  rw [wk_wolves, wk_bitten]
  rcases victim_ex n v hP k h with e | ⟨j, hj, e, _⟩
  · rw [if_pos e]; exact hw
  · rw [e, if_neg (nI9 (by omega)), hb_set (by omega)]
    rw [Bool.or_eq_true] at hw ⊢
    rcases hw with z | z
    · exact Or.inl z
    · rw [z]; exact Or.inr rfl
theorem s4_const {x : Int32} {f : Nat → Nat} {c : Nat} (h : ∀ i, i < 4 → hb x i = true → f i = c) : s4 (fun h => if hb x h = true then f h else 0) = g4 x * c := by
  have e : ∀ i, i < 4 → (if hb x i = true then f i else 0) = b1 (hb x i) * c := fun i hi => by
    unfold b1
    by_cases z : hb x i = true
    · rw [if_pos z, if_pos z, h i hi z, Nat.one_mul]
    · rw [if_neg z, if_neg z, Nat.zero_mul]
  unfold s4 g4
  dsimp only
  rw [e 0 (by omega), e 1 (by omega), e 2 (by omega), e 3 (by omega), Nat.add_mul, Nat.add_mul, Nat.add_mul]
  omega
theorem s4_le {x : Int32} {f : Nat → Nat} {c : Nat} (h : ∀ i, i < 4 → hb x i = true → f i ≤ c) : s4 (fun h => if hb x h = true then f h else 0) ≤ g4 x * c := by
  have e : ∀ i, i < 4 → (if hb x i = true then f i else 0) ≤ b1 (hb x i) * c := fun i hi => by
    unfold b1
    by_cases z : hb x i = true
    · rw [if_pos z, if_pos z, Nat.one_mul]; exact h i hi z
    · rw [if_neg z, if_neg z, Nat.zero_mul]; exact Nat.le_refl _
  have e0 := e 0 (by omega)
  have e1 := e 1 (by omega)
  have e2 := e 2 (by omega)
  have e3 := e 3 (by omega)
  unfold s4 g4
  dsimp only
  rw [Nat.add_mul, Nat.add_mul, Nat.add_mul]
  omega
theorem Sp_const (W : VR v path home kin) {F : TN → Nat} {p c : Nat} (hF : ∀ n, wb n p = true → F n = c) : ∀ r k n, k + r ≤ 6 → wb n p = true → Sp v F r k n = 6 ^ r * c := by
  intro r
  induction r with
  | zero => intro k n _ h; simp only [Sp]; rw [hF n h, Nat.pow_zero, Nat.one_mul]
  | succ r ih =>
    intro k n hk h
    simp only [Sp]
    rw [Nat.pow_succ, Nat.mul_comm (6 ^ r) 6, Nat.mul_assoc]
    by_cases c0 : g4 (f_X2_goals n v (nI k)) = 0
    · rw [if_pos c0, ih (k + 1) n (by omega) h]
    · rw [if_neg c0, s4_const (c := 6 ^ r * c) fun i _ _ => ih (k + 1) _ (by omega) (wb_walk n v W.hP k i h), ← Nat.mul_assoc, wt_mul c0 (goals_3 W n (by omega))]
theorem Sp_le (W : VR v path home kin) {F : TN → Nat} {c : Nat} (hF : ∀ n, F n ≤ c) : ∀ r k n, k + r ≤ 6 → Sp v F r k n ≤ 6 ^ r * c := by
  intro r
  induction r with
  | zero => intro k n _; simp only [Sp]; rw [Nat.pow_zero, Nat.one_mul]; exact hF n
  | succ r ih =>
    intro k n hk
    simp only [Sp]
    rw [Nat.pow_succ, Nat.mul_comm (6 ^ r) 6, Nat.mul_assoc]
    by_cases c0 : g4 (f_X2_goals n v (nI k)) = 0
    · rw [if_pos c0]; exact Nat.mul_le_mul_left 6 (ih (k + 1) n (by omega))
    · rw [if_neg c0]
      have e6 := wt_mul c0 (goals_3 W n (show k < 6 by omega))
      refine Nat.le_trans (Nat.mul_le_mul_left _ (s4_le (c := 6 ^ r * c) fun i _ _ => ih (k + 1) _ (by omega))) ?_
      rw [← Nat.mul_assoc, e6]
      exact Nat.le_refl _
/-- alike for who lives in a house -/
def LQ (v : TVi) (H0 k : Nat) (n m : TN) : Prop := gN_wolves n = gN_wolves m ∧ gN_gone n = gN_gone m ∧ gN_bolted n = gN_bolted m ∧ gN_barred n = gN_barred m ∧ (∀ q, k ≤ q → hb (gN_out n) q = hb (gN_out m) q) ∧ cn (gN_sheep n) H0 = cn (gN_sheep m) H0 ∧ ∀ q, q < gVi_people v → cn (gVi_homes v) q = H0 → hb (gN_bitten n) q = hb (gN_bitten m) q
theorem LQ_goals {H0 k : Nat} {n m : TN} (L : LQ v H0 k n m) {q : Nat} (hq : k ≤ q) (h6 : q < 32) : f_X2_goals n v (nI q) = f_X2_goals m v (nI q) := by
  obtain ⟨l1, l2, l3, l4, l5, l6, l7⟩ := L
  unfold f_X2_goals f_X2_reach f_X2_openHouses
  rw [has_hb h6, has_hb h6, hb_and, hb_and, hb_and, hb_and, hb_not, hb_not, hb_not, hb_not, l1, l2, l3, l4, l5 q hq]
theorem cn_sheep (n : TN) (v : TVi) (p : Int32) {h j : Nat} (hh : h < 4) (hj : j < 4) : cn (gN_sheep (f_X2_walk n v p (nI h)).2) j = if j = h then cn (gN_sheep n) j - 1 else cn (gN_sheep n) j := by
  have e := sheep_wk (gN_sheep n) hh hj
  rw [← wk_sheep n v p] at e
  have b1 := cn_lt (gN_sheep (f_X2_walk n v p (nI h)).2) j
  have b2 := cn_lt (gN_sheep n) j
  rw [cell_cn, cell_cn, cell_cn] at e
  have e2 := congrArg tn e
  rw [tn_nI (by omega)] at e2
  rw [e2]
  by_cases c : j = h
  · subst c
    rw [if_pos rfl, if_pos rfl]
    by_cases d : cn (gN_sheep n) j = 0
    · rw [d, if_pos (by decide), tn_nI (by omega)]
    · rw [if_neg (fun z => d (by have := (nI_le_ (a := cn (gN_sheep n) j) (b := 0) (by omega) (by omega)).mp z; omega)), show (nI (cn (gN_sheep n) j) - 1 : Int32) = nI (cn (gN_sheep n) j - 1) from pk_sub (b := 1) (by omega), tn_nI (by omega)]
  · rw [if_neg c, if_neg c, tn_nI (by omega)]
theorem vic_home (n : TN) (W : VR v path home kin) {p h : Nat} (hh : h < 4) : f_X2_victim n v (nI p) (nI h) = -9 ∨ ∃ j, j < gVi_people v ∧ f_X2_victim n v (nI p) (nI h) = nI j ∧ cn (gVi_homes v) j = h := by
  have hP := W.hP
  rw [victim_first]
  by_cases c : cn (gN_sheep n) h = 0
  · rw [if_pos c]
    rcases firstP_range (c := victimC n v p h) 8 0 with e | ⟨j, _, _, e1, e2⟩
    · exact Or.inl e
    · obtain ⟨a1, _, a3, _⟩ := (victimC_iff hP).mp e1
      rw [cell_cn] at a3
      have b2 := cn_lt (gVi_homes v) j
      exact Or.inr ⟨j, a1, e2, by have := congrArg tn a3; rw [tn_nI (by omega), tn_nI (by omega)] at this; exact this⟩
  · rw [if_neg c]; exact Or.inl rfl
theorem LQ_vic {H0 k : Nat} {n m : TN} (W : VR v path home kin) (h4 : H0 < 4) (L : LQ v H0 k n m) (p : Nat) : f_X2_victim n v (nI p) (nI H0) = f_X2_victim m v (nI p) (nI H0) := by
  have hP := W.hP
  obtain ⟨l1, l2, l3, l4, l5, l6, l7⟩ := L
  rw [victim_first, victim_first, l6]
  congr 1
  refine firstP_ext 8 0 0 (fun i _ _ => ?_) (fun i h1 h2 => by omega)
  rw [Bool.eq_iff_iff, victimC_iff hP, victimC_iff hP, l1, l2]
  constructor
  · rintro ⟨a1, a2, a3, a4, a5, a6⟩
    have z : cn (gVi_homes v) i = H0 := by
      rw [cell_cn] at a3
      have b2 := cn_lt (gVi_homes v) i
      have := congrArg tn a3; rw [tn_nI (by omega), tn_nI (by omega)] at this; exact this
    exact ⟨a1, a2, a3, a4, (l7 i a1 z).symm.trans a5, a6⟩
  · rintro ⟨a1, a2, a3, a4, a5, a6⟩
    have z : cn (gVi_homes v) i = H0 := by
      rw [cell_cn] at a3
      have b2 := cn_lt (gVi_homes v) i
      have := congrArg tn a3; rw [tn_nI (by omega), tn_nI (by omega)] at this; exact this
    exact ⟨a1, a2, a3, a4, (l7 i a1 z).trans a5, a6⟩
theorem bit_off (n : TN) (W : VR v path home kin) {H0 h : Nat} (hh : h < 4) (ne : ¬ h = H0) (p : Nat) {q : Nat} (hq : cn (gVi_homes v) q = H0) : hb (gN_bitten (f_X2_walk n v (nI p) (nI h)).2) q = hb (gN_bitten n) q := by
  have hP := W.hP
  rw [wk_bitten]
  rcases vic_home n W (p := p) hh with e | ⟨j, hj, e, hz⟩
  · rw [if_pos e]
  · rw [e, if_neg (nI9 (by omega)), hb_set (by omega), decide_eq_false (fun z => ne (by rw [← hz, ← z]; exact hq)), Bool.or_false]
theorem LQ_walk {H0 k : Nat} {n m : TN} (W : VR v path home kin) (h4 : H0 < 4) (L : LQ v H0 k n m) {h : Nat} (hh : h < 4) (hk : k < 32) : LQ v H0 (k + 1) (f_X2_walk n v (nI k) (nI h)).2 (f_X2_walk m v (nI k) (nI h)).2 := by
  have hv := LQ_vic W h4 L k
  obtain ⟨l1, l2, l3, l4, l5, l6, l7⟩ := L
  refine ⟨l1, l2, l3, l4, fun q hq => ?_, ?_, fun q hq hz => ?_⟩
  · rw [wk_out, wk_out, hb_set hk, hb_set hk, l5 q (by omega)]
  · rw [cn_sheep n v _ hh h4, cn_sheep m v _ hh h4, l6]
  · by_cases c : h = H0
    · rw [c, wk_bitten, wk_bitten, hv]
      rcases vic_home m W (p := k) h4 with e | ⟨j, hj, e, _⟩
      · rw [e, if_pos rfl, if_pos rfl]; exact l7 q hq hz
      · have hP := W.hP
        rw [e, if_neg (nI9 (by omega)), if_neg (nI9 (by omega)), hb_set (by omega), hb_set (by omega), l7 q hq hz]
    · rw [bit_off n W hh c k hz, bit_off m W hh c k hz]; exact l7 q hq hz
theorem LQ_off {H0 k : Nat} (n : TN) (W : VR v path home kin) (h4 : H0 < 4) {h : Nat} (hh : h < 4) (ne : ¬ h = H0) (hk : k < 32) : LQ v H0 (k + 1) (f_X2_walk n v (nI k) (nI h)).2 n := by
  refine ⟨rfl, rfl, rfl, rfl, fun q hq => ?_, ?_, fun q _ hz => bit_off n W hh ne k hz⟩
  · rw [wk_out, hb_set hk, decide_eq_false (by omega), Bool.or_false]
  · rw [cn_sheep n v _ hh h4, if_neg (fun z => ne z.symm)]
theorem Sp_LQ (W : VR v path home kin) {H0 : Nat} (h4 : H0 < 4) {F : TN → Nat} (hF : ∀ k n m, LQ v H0 k n m → F n = F m) : ∀ r k n m, k + r ≤ 6 → LQ v H0 k n m → Sp v F r k n = Sp v F r k m := by
  intro r
  induction r with
  | zero => intro k n m _ L; exact hF k n m L
  | succ r ih =>
    intro k n m hk L
    simp only [Sp]
    have L2 : LQ v H0 (k + 1) n m := ⟨L.1, L.2.1, L.2.2.1, L.2.2.2.1, fun q hq => L.2.2.2.2.1 q (by omega), L.2.2.2.2.2.1, L.2.2.2.2.2.2⟩
    rw [LQ_goals L (Nat.le_refl k) (by omega), ih (k + 1) n m (by omega) L2]
    have e : ∀ h, h < 4 → Sp v F r (k + 1) (f_X2_walk n v (nI k) (nI h)).2 = Sp v F r (k + 1) (f_X2_walk m v (nI k) (nI h)).2 := fun h hh => ih (k + 1) _ _ (by omega) (LQ_walk W h4 L hh (by omega))
    unfold s4
    dsimp only
    rw [e 0 (by omega), e 1 (by omega), e 2 (by omega), e 3 (by omega)]
end SHR
