/-! counting forward and backward -/
def sum5 (G : Nat → Nat) : Nat := G 0 + (G 1 + (G 2 + (G 3 + G 4)))
theorem sum5_swap (F : Nat → Nat → Nat) : sum5 (fun a => sum5 (fun b => F a b)) = sum5 (fun b => sum5 (fun a => F a b)) := by unfold sum5; dsimp only; omega
theorem sum5_congr {F G : Nat → Nat} (h : ∀ c, c < 5 → F c = G c) : sum5 F = sum5 G := by
  unfold sum5
  rw [h 0 (by omega), h 1 (by omega), h 2 (by omega), h 3 (by omega), h 4 (by omega)]
theorem sum5_le {G : Nat → Nat} {B i : Nat} (h : ∀ c, G c ≤ B) (hi : i < 4) (hz : G (i + 1) = 0) : sum5 G ≤ B * 4 := by
  unfold sum5
  have h0 := h 0
  have h1 := h 1
  have h2 := h 2
  have h3 := h 3
  have h4 := h 4
  match i, hi, hz with
  | 0, _, hz => have hz : G 1 = 0 := hz; omega
  | 1, _, hz => have hz : G 2 = 0 := hz; omega
  | 2, _, hz => have hz : G 3 = 0 := hz; omega
  | 3, _, hz => have hz : G 4 = 0 := hz; omega
theorem sum5_if {b : Bool} (F : Nat → Nat) : (if b = true then sum5 F else 0) = sum5 (fun c => if b = true then F c else 0) := by
  cases b
  · rfl
  · rfl
def cA (ok : Nat → Nat → Bool) (tr : Nat → Nat → Nat → Nat) (base : (Nat → Nat) → Nat) : Nat → Nat → (Nat → Nat) → Nat
  | 0, _, T => base T
  | r + 1, p, T => sum5 (fun c => if ok p c = true then cA ok tr base r (p + 1) (fun h => T h + tr p c h) else 0)
def cZ (ok : Nat → Nat → Bool) (tr : Nat → Nat → Nat → Nat) (base : (Nat → Nat) → Nat) : Nat → (Nat → Nat) → Nat
  | 0, T => base T
  | j + 1, T => sum5 (fun c => if ok j c = true then cZ ok tr base j (fun h => T h + tr j c h) else 0)
theorem cA_last (ok : Nat → Nat → Bool) (tr : Nat → Nat → Nat → Nat) (base : (Nat → Nat) → Nat) : ∀ (r p : Nat) (T : Nat → Nat), cA ok tr base (r + 1) p T = sum5 (fun c => if ok (p + r) c = true then cA ok tr base r p (fun h => T h + tr (p + r) c h) else 0) := by
  intro r
  induction r with
  | zero => intro p T; rfl
  | succ r ih =>
    intro p T
    have e1 : cA ok tr base (r + 1 + 1) p T = sum5 (fun c => if ok p c = true then sum5 (fun d => if ok (p + (r + 1)) d = true then cA ok tr base r (p + 1) (fun h => T h + tr p c h + tr (p + (r + 1)) d h) else 0) else 0) := by
      show sum5 (fun c => if ok p c = true then cA ok tr base (r + 1) (p + 1) (fun h => T h + tr p c h) else 0) = _
      refine sum5_congr fun c _ => ?_
      rw [ih, show p + 1 + r = p + (r + 1) by omega]
    have e2 : ∀ d, cA ok tr base (r + 1) p (fun h => T h + tr (p + (r + 1)) d h) = sum5 (fun c => if ok p c = true then cA ok tr base r (p + 1) (fun h => T h + tr p c h + tr (p + (r + 1)) d h) else 0) := fun d => by
      show sum5 (fun c => if ok p c = true then cA ok tr base r (p + 1) (fun h => T h + tr (p + (r + 1)) d h + tr p c h) else 0) = _
      refine sum5_congr fun c _ => ?_
      rw [show (fun h => T h + tr (p + (r + 1)) d h + tr p c h) = (fun h => T h + tr p c h + tr (p + (r + 1)) d h) from funext fun h => by omega]
    rw [e1]
    have e3 : (fun c => if ok p c = true then sum5 (fun d => if ok (p + (r + 1)) d = true then cA ok tr base r (p + 1) (fun h => T h + tr p c h + tr (p + (r + 1)) d h) else 0) else 0) = fun c => sum5 (fun d => if ok p c = true then (if ok (p + (r + 1)) d = true then cA ok tr base r (p + 1) (fun h => T h + tr p c h + tr (p + (r + 1)) d h) else 0) else 0) := funext fun c => sum5_if _
    rw [e3, sum5_swap]
    refine sum5_congr fun d _ => ?_
    rw [e2, sum5_if]
    refine sum5_congr fun c _ => ?_
    cases ok p c <;> cases ok (p + (r + 1)) d <;> rfl
theorem cZ_cA (ok : Nat → Nat → Bool) (tr : Nat → Nat → Nat → Nat) (base : (Nat → Nat) → Nat) : ∀ (j : Nat) (T : Nat → Nat), cZ ok tr base j T = cA ok tr base j 0 T := by
  intro j
  induction j with
  | zero => intro T; rfl
  | succ j ih =>
    intro T
    rw [cA_last]
    show sum5 _ = sum5 _
    refine sum5_congr fun c _ => ?_
    rw [Nat.zero_add, ih]
theorem tail5 {g : Int32} {H : Nat} (hH : H ≤ 4) (hg : ∀ i, hb g i = true → i < H) (G : Nat → Nat) : tailS G g H 1 = (if hb g 0 = true then G 1 else 0) + ((if hb g 1 = true then G 2 else 0) + ((if hb g 2 = true then G 3 else 0) + (if hb g 3 = true then G 4 else 0))) := by
  have n : ∀ i, H ≤ i → hb g i = false := fun i hi => Bool.eq_false_iff.mpr fun z => by have := hg i z; omega
  match H, hH with
  | 0, _ => simp [tailS, n 0 (by omega), n 1 (by omega), n 2 (by omega), n 3 (by omega)]
  | 1, _ => simp [tailS, n 1 (by omega), n 2 (by omega), n 3 (by omega)]
  | 2, _ => simp [tailS, n 2 (by omega), n 3 (by omega)]
  | 3, _ => simp [tailS, n 3 (by omega)]
  | 4, _ => simp [tailS]
/-- the digits that the reference goes through -/
def okd (set g : Int32) (j c : Nat) : Bool := match c with
  | 0 => true
  | h + 1 => f_X9_has set (nI j) && hb g h
theorem Sm5 {H : Nat} (hH : H ≤ 4) {now home path : Nat → Int32} {set : Int32} (f : (Nat → Int32) → Nat) {j : Nat} (hg : ∀ i, hb (f_X9_goesTo H now home path j) i = true → i < H) (w : Nat → Int32) (hw : w j = 0) :
    Sm H now home path set f (j + 1) w = sum5 (fun c => if okd set (f_X9_goesTo H now home path j) j c = true then Sm H now home path set f j (upd w j (nI c)) else 0) := by
  simp only [Sm]
  have h0 : upd w j (nI 0) = w := fa_upd_same hw
  cases hs : f_X9_has set (nI j) with
  | true =>
    rw [if_pos rfl, tail5 hH hg]
    unfold sum5 okd
    simp only [hs, Bool.true_and, if_true]
  | false =>
    rw [if_neg (by decide)]
    unfold sum5 okd
    simp only [hs, Bool.false_and, if_true, h0]
    simp
theorem Sm_le {H : Nat} (hH : H ≤ 4) {now home path : Nat → Int32} {set : Int32} : ∀ (j : Nat), (∀ k, k < j → (∀ i, hb (f_X9_goesTo H now home path k) i = true → i < H) ∧ ∃ i, i < 4 ∧ hb (f_X9_goesTo H now home path k) i = false) → ∀ w : Nat → Int32, (∀ p, p < j → w p = 0) → Sm H now home path set (fun _ => 1) j w ≤ 4 ^ j := by
  intro j
  induction j with
  | zero => intro _ w _; exact Nat.le_refl 1
  | succ j ih =>
    intro hk w hw
    have ih := ih (fun k h => hk k (by omega))
    rw [Sm5 hH _ (hk j (by omega)).1 w (hw j (by omega))]
    obtain ⟨i, hi, hf⟩ := (hk j (by omega)).2
    have hle : ∀ c, Sm H now home path set (fun _ => 1) j (upd w j (nI c)) ≤ 4 ^ j := fun c => ih _ (fun p hp => by rw [upd_at, if_neg (by omega)]; exact hw p (by omega))
    have ht : ∀ c, (if okd set (f_X9_goesTo H now home path j) j c = true then Sm H now home path set (fun _ => 1) j (upd w j (nI c)) else 0) ≤ 4 ^ j := fun c => by
      split
      · exact hle c
      · exact Nat.zero_le _
    have hz : (if okd set (f_X9_goesTo H now home path j) j (i + 1) = true then Sm H now home path set (fun _ => 1) j (upd w j (nI (i + 1))) else 0) = 0 := by
      unfold okd
      simp [hf]
    rw [Nat.pow_succ]
    exact sum5_le ht hi hz
section RC
variable (H P : Nat) (home path : Nat → Int32) (st aw wa : Int32)
/-- hunger: may this person have gone so -/
def hgd (st aw : Int32) (p c : Nat) : Bool := (!hb st p || decide (c = 0)) && (!hb aw p || !decide (c = 0))
def trk (home path : Nat → Int32) (wa : Int32) (p c h : Nat) : Nat := if c = 1 + h ∧ hb wa h = true ∧ path (4 * tn (home p) + h) = 1 then 1 else 0
def hgA (st aw : Int32) (w : Nat → Int32) : Nat → Nat → Bool
  | 0, _ => true
  | r + 1, p => hgd st aw p (tn (w p)) && hgA st aw w r (p + 1)
def TrW (home path : Nat → Int32) (wa : Int32) (w : Nat → Int32) : Nat → Nat → Nat → Nat
  | 0, _, _ => 0
  | r + 1, p, h => trk home path wa p (tn (w p)) h + TrW home path wa w r (p + 1) h
theorem hgA_upd (st aw : Int32) (w : Nat → Int32) (j : Nat) (x : Int32) : ∀ (r p : Nat), j < p → hgA st aw (upd w j x) r p = hgA st aw w r p := by
  intro r
  induction r with
  | zero => intro p _; rfl
  | succ r ih => intro p h; simp only [hgA]; rw [ih (p + 1) (by omega), upd_at, if_neg (by omega)]
theorem TrW_upd (home path : Nat → Int32) (wa : Int32) (w : Nat → Int32) (j : Nat) (x : Int32) (h : Nat) : ∀ (r p : Nat), j < p → TrW home path wa (upd w j x) r p h = TrW home path wa w r p h := by
  intro r
  induction r with
  | zero => intro p _; rfl
  | succ r ih => intro p hp; simp only [TrW]; rw [ih (p + 1) (by omega), upd_at, if_neg (by omega)]
end RC
theorem Sm_cZ {H P : Nat} (hH : H ≤ 4) {now home path : Nat → Int32} {set st aw wa : Int32} {f : (Nat → Int32) → Nat} {base : (Nat → Nat) → Nat} (hg : ∀ j, j < P → ∀ i, hb (f_X9_goesTo H now home path j) i = true → i < H)
    (hf : ∀ w : Nat → Int32, (∀ p, p < P → ∃ c, c ≤ 4 ∧ w p = nI c) → f w = if hgA st aw w P 0 = true then base (TrW home path wa w P 0) else 0) :
    ∀ (j r : Nat), j + r = P → ∀ w : Nat → Int32, (∀ p, p < P → ∃ c, c ≤ 4 ∧ w p = nI c) → (∀ p, p < j → w p = 0) → Sm H now home path set f j w = if hgA st aw w r j = true then cZ (fun p c => okd set (f_X9_goesTo H now home path p) p c && hgd st aw p c) (trk home path wa) base j (TrW home path wa w r j) else 0 := by
  intro j
  induction j with
  | zero =>
    intro r hr w hw _
    obtain rfl : r = P := by omega
    exact hf w hw
  | succ j ih =>
    intro r hr w hw h0
    rw [Sm5 hH f (hg j (by omega)) w (h0 j (by omega))]
    have e : ∀ c, c < 5 → (if okd set (f_X9_goesTo H now home path j) j c = true then Sm H now home path set f j (upd w j (nI c)) else 0) = if hgA st aw w r (j + 1) = true then (if (okd set (f_X9_goesTo H now home path j) j c && hgd st aw j c) = true then cZ (fun p c => okd set (f_X9_goesTo H now home path p) p c && hgd st aw p c) (trk home path wa) base j (fun h => TrW home path wa w r (j + 1) h + trk home path wa j c h) else 0) else 0 := by
      intro c hc
      rw [ih (r + 1) (by omega) (upd w j (nI c)) (fun p hp => by
        rw [upd_at]
        by_cases e : p = j
        · rw [if_pos e]; exact ⟨c, by omega, rfl⟩
        · rw [if_neg e]; exact hw p hp) (fun p hp => by rw [upd_at, if_neg (by omega)]; exact h0 p (by omega))]
      have e1 : hgA st aw (upd w j (nI c)) (r + 1) j = (hgd st aw j c && hgA st aw w r (j + 1)) := by
        simp only [hgA]
        rw [hgA_upd _ _ _ _ _ _ _ (by omega), upd_at, if_pos rfl, tn_nI (by omega)]
      have e2 : TrW home path wa (upd w j (nI c)) (r + 1) j = fun h => TrW home path wa w r (j + 1) h + trk home path wa j c h := by
        funext h
        simp only [TrW]
        rw [TrW_upd _ _ _ _ _ _ _ _ _ (by omega), upd_at, if_pos rfl, tn_nI (by omega), Nat.add_comm]
      rw [e1, e2]
      cases okd set (f_X9_goesTo H now home path j) j c <;> cases hgd st aw j c <;> cases hgA st aw w r (j + 1) <;> rfl
    rw [sum5_congr e, ← sum5_if]
    rfl
