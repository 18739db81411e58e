/-! the reference's counting through all ways is a sum over digits -/
def nx (H : Nat) (g : Int32) : Nat → Nat → Nat
  | 0, y => y
  | r + 1, y => if H < y then y else if hb g (y - 1) = true then y else nx H g r (y + 1)
def tailS (G : Nat → Nat) (g : Int32) : Nat → Nat → Nat
  | 0, _ => 0
  | r + 1, y => (if hb g (y - 1) = true then G y else 0) + tailS G g r (y + 1)
theorem nx_tail (H : Nat) (g : Int32) : ∀ (r y f : Nat), 1 ≤ y → y + r = H + 1 → r < f → (H < nx H g f y ∧ nx H g f y ≤ 100 + H ∧ ∀ G, tailS G g r y = 0) ∨ (y ≤ nx H g f y ∧ nx H g f y ≤ H ∧ ∀ G, tailS G g r y = G (nx H g f y) + tailS G g (H - nx H g f y) (nx H g f y + 1)) := by
  intro r
  induction r with
  | zero =>
    intro y f h1 h2 h3
    obtain ⟨f, rfl⟩ : ∃ z, f = z + 1 := ⟨f - 1, by omega⟩
    have e : nx H g (f + 1) y = y := by simp only [nx]; rw [if_pos (by omega)]
    rw [e]
    exact Or.inl ⟨by omega, by omega, fun _ => rfl⟩
  | succ r ih =>
    intro y f h1 h2 h3
    obtain ⟨f, rfl⟩ : ∃ z, f = z + 1 := ⟨f - 1, by omega⟩
    by_cases c : hb g (y - 1) = true
    · have e : nx H g (f + 1) y = y := by simp only [nx]; rw [if_neg (by omega), if_pos c]
      rw [e]
      refine Or.inr ⟨Nat.le_refl _, by omega, fun G => ?_⟩
      simp only [tailS]
      rw [if_pos c, show H - y = r by omega]
    · have e : nx H g (f + 1) y = nx H g f (y + 1) := by simp only [nx]; rw [if_neg (by omega), if_neg c]
      rw [e]
      rcases ih (y + 1) f (by omega) (by omega) (by omega) with ⟨a, b, z⟩ | ⟨a, b, z⟩
      · refine Or.inl ⟨a, b, fun G => ?_⟩
        simp only [tailS]
        rw [if_neg c, z G]
      · refine Or.inr ⟨by omega, b, fun G => ?_⟩
        simp only [tailS]
        rw [if_neg c, z G, Nat.zero_add]
theorem L34_at {H : Nat} (hH : H ≤ 4) (now home path : Nat → Int32) (k : Nat) (hS : isS 16 (f_X9_goesTo H now home path k)) : ∀ (r y : Nat) (w : Nat → Int32), w k = nI y → 1 ≤ y → y ≤ 5 → f_X9_nextWays_L34 H now home path k r w = upd w k (nI (nx H (f_X9_goesTo H now home path k) r y)) := by
  intro r
  induction r with
  | zero => intro y w hw _ _; show w = upd w k (nI y); rw [fa_upd_same hw]
  | succ r ih =>
    intro y w hw h1 h5
    simp only [f_X9_nextWays_L34, nx]
    rw [hw]
    by_cases c : H < y
    · rw [if_pos ((nI_lt_ (by omega) (by omega)).mpr c), if_pos c, fa_upd_same hw]
    · rw [if_neg (fun z => c ((nI_lt_ (by omega) (by omega)).mp z)), if_neg c]
      rw [show (nI y - 1 : Int32) = nI (y - 1) from pk_sub (b := 1) h1, has9_hb (by omega)]
      by_cases c2 : hb (f_X9_goesTo H now home path k) (y - 1) = true
      · rw [if_pos c2, if_pos c2, fa_upd_same hw]
      · rw [if_neg c2, if_neg c2, nI_add1, ih (y + 1) (upd w k (nI (y + 1))) (if_pos rfl) (by omega) (by omega), fa_upd_twice]
section ODO
variable {H P sc : Nat} {sight path home now : Nat → Int32} {set moon : Int32}
/-- the sum of f over all ways of the digits below j, those above as w has them -/
def Sm (H : Nat) (now home path : Nat → Int32) (set : Int32) (f : (Nat → Int32) → Nat) : Nat → (Nat → Int32) → Nat
  | 0, w => f w
  | j + 1, w => if f_X9_has set (nI j) = true then Sm H now home path set f j (upd w j (nI 0)) + tailS (fun y => Sm H now home path set f j (upd w j (nI y))) (f_X9_goesTo H now home path j) H 1 else Sm H now home path set f j w
def seenN (H P sc : Nat) (sight path home now : Nat → Int32) (moon : Int32) (w : Nat → Int32) : Nat := if f_X9_isSeen H P sc sight w path home now moon = true then 1 else 0
theorem seen_add (n : Int64) (w : Nat → Int32) : n + (if f_X9_isSeen H P sc sight w path home now moon = true then (1 : Int64) else (0 : Int64)) = n + lN (seenN H P sc sight path home now moon w) := by
  unfold seenN
  split <;> rfl
def LL (H P sc : Nat) (sight path home now : Nat → Int32) (set moon : Int32) (F : Nat) (n : Int64) (q : Bool × (Nat → Int32)) : (Int64 × Bool × (Nat → Int32)) × Bool := (f_X9_waysOf_L26 H P sc sight path home now set moon F n q.1 q.2, f_X9_waysOf_L26_E H P sc sight path home now set moon F n q.1 q.2)
theorem LL_step (F : Nat) (n : Int64) (w : Nat → Int32) : LL H P sc sight path home now set moon (F + 1) n (true, w) = LL H P sc sight path home now set moon F (n + lN (seenN H P sc sight path home now moon w)) (f_X9_nextWays H P now home path w set) := by
  unfold LL
  simp only [f_X9_waysOf_L26, f_X9_waysOf_L26_E, if_true]
  rw [seen_add]
theorem odo_digit (hH : H ≤ 4) {j r : Nat} (hS : isS 16 (f_X9_goesTo H now home path j)) (hs : f_X9_has set (nI j) = true)
    (IH : ∀ (F : Nat) (n : Int64) (w : Nat → Int32), (∀ p, p < j → w p = 0) → LL H P sc sight path home now set moon (F + Sm H now home path set (fun _ => 1) j w) n (true, w) = LL H P sc sight path home now set moon F (n + lN (Sm H now home path set (seenN H P sc sight path home now moon) j w)) (f_X9_nextWays_L2 H now home path set (r + 1) j w)) :
    ∀ (m x : Nat), H - x ≤ m → x ≤ H → ∀ (F : Nat) (n : Int64) (w : Nat → Int32), (∀ p, p < j → w p = 0) →
      LL H P sc sight path home now set moon (F + (Sm H now home path set (fun _ => 1) j (upd w j (nI x)) + tailS (fun y => Sm H now home path set (fun _ => 1) j (upd w j (nI y))) (f_X9_goesTo H now home path j) (H - x) (x + 1))) n (true, upd w j (nI x)) =
      LL H P sc sight path home now set moon F (n + lN (Sm H now home path set (seenN H P sc sight path home now moon) j (upd w j (nI x)) + tailS (fun y => Sm H now home path set (seenN H P sc sight path home now moon) j (upd w j (nI y))) (f_X9_goesTo H now home path j) (H - x) (x + 1))) (f_X9_nextWays_L2 H now home path set r (j + 1) (upd w j (nI 0))) := by
  intro m
  induction m with
  | zero =>
    intro x hm hx F n w hw
    have e : H - x = 0 := by omega
    rw [e]
    simp only [tailS, Nat.add_zero]
    rw [IH _ _ _ (fun p hp => by rw [upd_at, if_neg (by omega)]; exact hw p hp)]
    congr 1
    simp only [f_X9_nextWays_L2]
    rw [if_pos hs]
    have ew : upd (upd w j (nI x)) j ((upd w j (nI x)) j + 1) = upd w j (nI (x + 1)) := by
      rw [fa_upd_twice, upd_at, if_pos rfl, nI_add1]
    rw [ew, L34_at hH now home path j hS fuelN (x + 1) _ (if_pos rfl) (by omega) (by omega), fa_upd_twice]
    rcases nx_tail H (f_X9_goesTo H now home path j) 0 (x + 1) fuelN (by omega) (by omega) (by decide) with ⟨a, b, _⟩ | ⟨a, b, _⟩
    · rw [upd_at, if_pos rfl, if_pos ((nI_lt_ (by omega) (by omega)).mpr a), fa_upd_twice]; rfl
    · omega
  | succ m ih =>
    intro x hm hx F n w hw
    rw [show F + (Sm H now home path set (fun _ => 1) j (upd w j (nI x)) + tailS (fun y => Sm H now home path set (fun _ => 1) j (upd w j (nI y))) (f_X9_goesTo H now home path j) (H - x) (x + 1)) = (F + tailS (fun y => Sm H now home path set (fun _ => 1) j (upd w j (nI y))) (f_X9_goesTo H now home path j) (H - x) (x + 1)) + Sm H now home path set (fun _ => 1) j (upd w j (nI x)) by omega]
    rw [IH _ _ _ (fun p hp => by rw [upd_at, if_neg (by omega)]; exact hw p hp)]
    simp only [f_X9_nextWays_L2]
    rw [if_pos hs]
    have ew : upd (upd w j (nI x)) j ((upd w j (nI x)) j + 1) = upd w j (nI (x + 1)) := by
      rw [fa_upd_twice, upd_at, if_pos rfl, nI_add1]
    rw [ew, L34_at hH now home path j hS fuelN (x + 1) _ (if_pos rfl) (by omega) (by omega), fa_upd_twice]
    rcases nx_tail H (f_X9_goesTo H now home path j) (H - x) (x + 1) fuelN (by omega) (by omega) (by show H - x < fuelN; have : fuelN = fuelN := rfl; unfold fuelN; omega) with ⟨a, b, z⟩ | ⟨a, b, z⟩
    · rw [z, z, upd_at, if_pos rfl, if_pos ((nI_lt_ (by omega) (by omega)).mpr a), fa_upd_twice]
      simp only [Nat.add_zero]
      rfl
    · rw [z, z, upd_at, if_pos rfl, if_neg (fun y => by have := (nI_lt_ (by omega) (by omega)).mp y; omega)]
      rw [ih _ (by omega) b F _ w hw]
      congr 1
      rw [Int64.add_assoc, lN_add]
theorem odo (hH : H ≤ 4) (hS : ∀ j, j < P → isS 16 (f_X9_goesTo H now home path j)) : ∀ (j r : Nat), j + r = P → ∀ (F : Nat) (n : Int64) (w : Nat → Int32), (∀ p, p < j → w p = 0) →
    LL H P sc sight path home now set moon (F + Sm H now home path set (fun _ => 1) j w) n (true, w) = LL H P sc sight path home now set moon F (n + lN (Sm H now home path set (seenN H P sc sight path home now moon) j w)) (f_X9_nextWays_L2 H now home path set r j w) := by
  intro j
  induction j with
  | zero =>
    intro r hr F n w _
    obtain rfl : r = P := by omega
    exact LL_step F n w
  | succ j ih =>
    intro r hr F n w hw
    have h0 : upd w j (nI 0) = w := fa_upd_same (hw j (by omega))
    have IH := ih (r + 1) (by omega)
    by_cases hs : f_X9_has set (nI j) = true
    · have := odo_digit (sc := sc) (sight := sight) (moon := moon) (P := P) hH (hS j (by omega)) hs IH H 0 (by omega) (by omega) F n w (fun p hp => hw p (by omega))
      simp only [Sm]
      rw [if_pos hs, if_pos hs]
      rw [h0] at this ⊢
      exact this
    · simp only [Sm]
      rw [if_neg hs, if_neg hs, IH F n w (fun p hp => hw p (by omega))]
      simp only [f_X9_nextWays_L2]
      rw [if_neg hs]
theorem L2_zero : ∀ (r k : Nat) (w : Nat → Int32) (i : Nat), f_X9_waysOf_L2 r k w i = if k ≤ i ∧ i < k + r then 0 else w i := by
  intro r
  induction r with
  | zero => intro k w i; rw [if_neg (by omega)]; rfl
  | succ r ih =>
    intro k w i
    simp only [f_X9_waysOf_L2]
    rw [ih, upd_at]
    by_cases e : i = k
    · subst e; rw [if_neg (by omega), if_pos rfl, if_pos (by omega)]
    · rw [if_neg e]
      by_cases h : k ≤ i ∧ i < k + (r + 1)
      · rw [if_pos h, if_pos (by omega)]
      · rw [if_neg h, if_neg (by omega)]
theorem LL_end (F : Nat) (n : Int64) (w : Nat → Int32) : LL H P sc sight path home now set moon F n (false, w) = ((n, false, w), true) := by
  unfold LL
  cases F <;> simp [f_X9_waysOf_L26, f_X9_waysOf_L26_E]
theorem ways_sum (hH : H ≤ 4) (hP : P ≤ 6) (hS : ∀ j, j < P → isS 16 (f_X9_goesTo H now home path j)) (w : Nat → Int32) (hF : Sm H now home path set (fun _ => 1) P (f_X9_waysOf_L2 6 0 w) ≤ 4097) :
    (f_X9_waysOf H P sc w sight path home now set moon).1 = lN (Sm H now home path set (seenN H P sc sight path home now moon) P (f_X9_waysOf_L2 6 0 w)) ∧ f_X9_waysOf_L26_E H P sc sight path home now set moon fuelW 0 true (f_X9_waysOf_L2 6 0 w) = true := by
  have h := odo (sc := sc) (sight := sight) (set := set) (moon := moon) hH hS P 0 (by omega) (4097 - Sm H now home path set (fun _ => 1) P (f_X9_waysOf_L2 6 0 w)) 0 (f_X9_waysOf_L2 6 0 w) (fun p hp => by rw [L2_zero, if_pos (by omega)])
  rw [Nat.sub_add_cancel hF] at h
  simp only [f_X9_nextWays_L2] at h
  rw [LL_end] at h
  have h1 := congrArg Prod.fst h
  have h2 := congrArg Prod.snd h
  refine ⟨?_, h2⟩
  have h3 := congrArg Prod.fst h1
  dsimp only at h3
  rw [Int64.zero_add] at h3
  exact h3
end ODO
